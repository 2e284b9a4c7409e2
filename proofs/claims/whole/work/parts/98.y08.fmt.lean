/-! ===== format: the class ===== -/
section PZR8
variable {N B gr : Nat}
abbrev HOp : Type := Option (Nat × Rw)
def hwO (N B : Nat) (o : HOp) (h : Hw) : Bool × Hw := match o with
  | some p => aPl N B p.1 p.2 h
  | none => aSe N h
def hRn (N B : Nat) (r : Bool × Hw) (l : List HOp) : Bool × Hw := l.foldl (fun r o => hB r (hwO N B o)) r
theorem hRn_a {r : Bool × Hw} {l l' : List HOp} : hRn N B r (l ++ l') = hRn N B (hRn N B r l) l' := List.foldl_append
theorem hRn_s {r : Bool × Hw} {l : List HOp} {o : HOp} : hRn N B r (l ++ [o]) = hB (hRn N B r l) (hwO N B o) := hRn_a
theorem hRn_f {r : Bool × Hw} (h : r.1 = false) : ∀ l : List HOp, hRn N B r l = r
  | [] => rfl
  | o :: l => by
    show hRn N B (hB r (hwO N B o)) l = r
    rw [hB_f h]
    exact hRn_f h l
theorem hwO_sp {o : HOp} {h : Hw} : hSp (hwO N B o h).2 ≤ hSp h + 1 := by
  cases o with
  | some p => exact aPl_sp
  | none =>
    show hSp (aSe N h).2 ≤ _
    rw [(aSe_all (N := N) (B := B) h).2.2.2.1]
    omega
theorem hRn_sp : ∀ (l : List HOp) (r : Bool × Hw), hSp (hRn N B r l).2 ≤ hSp r.2 + l.length
  | [], r => Nat.le_refl _
  | o :: l, r => by
    have q := hRn_sp l (hB r (hwO N B o))
    have q2 : hSp (hB r (hwO N B o)).2 ≤ hSp r.2 + 1 := by
      by_cases c : r.1 = true
      · rw [hB_t c]
        exact hwO_sp
      · rw [hB_f (by cases h : r.1 <;> simp_all)]
        omega
    show hSp (hRn N B (hB r (hwO N B o)) l).2 ≤ _
    rw [List.length_cons]
    omega
/-- what lies behind an array's end does not matter -/
theorem G.sw {E : gE} {K : gM} {cc : ByteArray} {Q : gU} {f : Nat → va_E} {pc : Nat} {lv : List (Nat × Value)} {st : List Value} {j n : Nat} {x x' : Nat → Int32} (he : f j = oB (gDA E) n x) (hx : ∀ i, i < n → x i = x' i) (k : G E K cc Q pc lv st (va_up f j (oB (gDA E) n x'))) : G E K cc Q pc lv st f := by
  intro p e s m args below meth c C H locs ls hP hD hS hl
  refine k p e s m args below meth c C H locs ls ?_ (wl_D hD) hS hl
  intro i q hi
  obtain ⟨h1, e1⟩ := wl_lt hi
  subst e1
  have q0 := hP i _ (wl_get h1)
  by_cases c : i = j
  · subst c
    rw [he] at q0
    rw [up_e]
    have q1 : H[E.2.2.2.2 i]? = some (arrV (gDA E 0) n (fun j => .int (x j))) := q0
    show H[E.2.2.2.2 i]? = some (arrV (gDA E 0) n (fun j => .int (x' j)))
    have e2 : (fun j : Fin n => Value.int (x j.val)) = fun j : Fin n => Value.int (x' j.val) := funext (fun j => by rw [hx j.val j.isLt])
    rw [q1]
    unfold arrV
    rw [e2]
  · rw [up_n c rfl]
    exact q0
/-- hardware, log and the view's scratch apart, nothing changed -/
def Sx (C0 C : CfT) : Prop := (∀ j, md (j / 100) ∉ [0, 1] → C.1 j = C0.1 j) ∧ (∀ k, md k ∉ [0, 1] → k ≠ 31 → C.2.1 k = C0.2.1 k) ∧ ∀ m, rmd m ∉ [0, 1] → C.2.2 m = C0.2.2 m
theorem Sx.rf {C : CfT} : Sx C C := ⟨fun _ _ => rfl, fun _ _ _ => rfl, fun _ _ => rfl⟩
theorem Sx.sm {C0 C C' : CfT} {L : List Nat} (h : Sx C0 C) (s : Sm L C C') (hl : ∀ m, m ∈ L → m ∈ [0, 1]) : Sx C0 C' := ⟨fun j q => (s.1 j (fun z => q (hl _ z))).trans (h.1 j q), fun k q n => (s.2.1 k (fun z => q (hl _ z))).trans (h.2.1 k q n), fun m q => (s.2.2 m (fun z => q (hl _ z))).trans (h.2.2 m q)⟩
theorem Sx.row {C0 C : CfT} {x : Nat → Int32} (h : Sx C0 C) : Sx C0 (sA C 31 x) := ⟨h.1, fun k q n => (if_neg n).trans (h.2.1 k q n), h.2.2⟩
def FmW (E : gE) (f g : Nat → va_E) (N B gr : Nat) (C0 : CfT) (h0 : Hw) (pre : List HOp) (sc : Nat → Int32) : Prop := (hRn N B (true, h0) pre).1 = true ∧ ∃ C, CfV E g N B gr C ∧ HwR N B 1 (hRn N B (true, h0) pre).2 C ∧ Byt (cA C 15) ∧ cA C 31 = sc ∧ Byt sc ∧ Sx C0 C ∧ Fr CfK f g
def FmQ (E : gE) (f g : Nat → va_E) (N B gr : Nat) (C0 : CfT) (h0 : Hw) (pre : List HOp) : Prop := (hRn N B (true, h0) pre).1 = false ∧ ∃ C, CfV E g N B gr C ∧ HwR N B 0 (hFl (hRn N B (true, h0) pre).2) C ∧ Byt (cA C 15) ∧ Sx C0 C ∧ Fr CfK f g
section PZR8a
variable {E : gE} {f g w : Nat → va_E} {C0 C : CfT} {h0 : Hw} {pre : List HOp} {sc sc' : Nat → Int32}
theorem FmQ.ext (h : FmQ E f g N B gr C0 h0 pre) (l : List HOp) : FmQ E f g N B gr C0 h0 (pre ++ l) := by
  unfold FmQ at h ⊢
  rw [hRn_a, hRn_f h.1]
  exact h
theorem FmW.row (V : FmW E f g N B gr C0 h0 pre sc) (hu : w 31 = oB (gDA E) 128 sc') (hb : Byt sc') (hf : Fr ScK g w) : FmW E f w N B gr C0 h0 pre sc' := by
  obtain ⟨v1, C, v2, v3, v4, v5, v6, v7, v8⟩ := V
  refine ⟨v1, sA C 31 sc', (v2.p31 sc').of (fun k hk => ?_), v3.sm (Sm.a (L := [3]) (by decide)) (by decide), v4, rfl, hb, v7.row, fun k hk => (hf k (fun e => hk (by rw [show k = 31 from e]; exact Or.inl (by decide)))).trans (v8 k hk)⟩
  by_cases c : k = 31
  · rw [c, up_e]
    exact hu
  · rw [up_n c rfl]
    exact hf k c
theorem FmW.o0 {fd : Nat} (V : FmW E f g N B gr C0 h0 pre sc) (h1 : cS C0 1 = nI fd) (h2 : cS C0 2 = 0) : g 0 = .inr (11, [.ref (gAd E (1)), .int (nI fd), .int (0), .ref (gAd E (2)), .ref (gAd E (8)), .ref (gAd E (13)), .ref (gAd E (17)), .ref (gAd E (25)), .ref (gAd E (37)), .ref (gAd E (32)), .ref (gAd E (40)), .ref (gAd E (41)), .ref (gAd E (44)), .ref (gAd E (47)), .ref (gAd E (50)), .ref (gAd E (53)), .ref (gAd E (54)), .ref (gAd E (55))]) := by
  obtain ⟨v1, C, v2, v3, v4, v5, v6, v7, v8⟩ := V
  rw [v2.q0, show cS C 1 = nI fd from (v7.1 1 (by decide)).trans h1, show cS C 2 = 0 from (v7.1 2 (by decide)).trans h2]
theorem FmW.o8 (V : FmW E f g N B gr C0 h0 pre sc) : ∃ fa, g 8 = .inr (0, fa) := by
  obtain ⟨v1, C, v2, v3⟩ := V
  exact ⟨_, v2.q8⟩
theorem FmW.o13 (V : FmW E f g N B gr C0 h0 pre sc) : ∃ fa, g 13 = .inr (6, fa) := by
  obtain ⟨v1, C, v2, v3⟩ := V
  exact ⟨_, v2.q13⟩
theorem FmW.o2 (V : FmW E f g N B gr C0 h0 pre sc) : ∃ (d : DkT) (on le wr ss : Int32), g 2 = .inr (2, [.int (nI N), .ref (gAd E (3)), .ref (gAd E (4)), .ref (gAd E (5)), .ref (gAd E (6)), .ref (gAd E (7)), .int (nI d.2.2.2.2.2.1), .int (nI d.2.2.2.2.2.2), .int (on), .int (le), .int (wr), .int (ss)]) := by
  obtain ⟨v1, C, v2, v3, -⟩ := V
  exact ⟨_, _, _, _, _, (HwR.dv v2 v3).1.o⟩
theorem FmW.o31 (V : FmW E f g N B gr C0 h0 pre sc) : g 31 = oB (gDA E) 128 sc := by
  obtain ⟨v1, C, v2, v3, v4, v5, -⟩ := V
  rw [v2.q31, v5]
theorem FmW.b (V : FmW E f g N B gr C0 h0 pre sc) : Byt sc := by
  obtain ⟨v1, C, v2, v3, v4, v5, v6, -⟩ := V
  exact v6
theorem c_plw (hz : CfZ E N B gr) (V : FmW E f g N B gr C0 h0 pre sc) (hs : hSp h0 + pre.length + 1 < 2 ^ 31) (t : Nat) (ht : t < N) : Ct E 8 yX0_place cX0_place 4 none [.ref (gAd E (8)), .int (nI t), .ref (gAd E (31))] g (fun v u => v = none ∧ FmW E f u N B gr C0 h0 (pre ++ [some (t, nr sc)]) sc, fun X u => X = "java/lang/UnsupportedOperationException" ∧ FmQ E f u N B gr C0 h0 (pre ++ [some (t, nr sc)])) := by
  obtain ⟨z1, z2, z3, z4, z5, z6, z7⟩ := id hz
  obtain ⟨v1, C, v2, v3, v4, v5, v6, v7, v8⟩ := V
  have hsp : hSp (hRn N B (true, h0) pre).2 ≤ hSp h0 + pre.length := hRn_sp pre (true, h0)
  have e : hRn N B (true, h0) (pre ++ [some (t, nr sc)]) = aPl N B t (nr sc) (hRn N B (true, h0) pre).2 := by rw [hRn_s, hB_t v1]; rfl
  refine (r_pl E g N B gr C hz v2 _ v3 (by unfold hSp at hsp hs; omega) t 31 sc ht (by omega) (v5 ▸ v2.q31) v6 DBK_31).mono (fun v u q => ?_) (fun X u q => ?_)
  · obtain ⟨q1, q2, ⟨C', q3, q4, q5⟩, q6⟩ := q
    unfold FmW
    rw [e]
    exact ⟨q1, q2, C', q3, q4, by rw [show cA C' 15 = cA C 15 from q5.2.1 15 (by decide)]; exact v4, by rw [show cA C' 31 = cA C 31 from q5.2.1 31 (by decide)]; exact v5, v6, v7.sm q5 (by decide), v8.tr q6 (fun _ h => h)⟩
  · obtain ⟨q1, q2, ⟨C', q3, q4, q5⟩, q6⟩ := q
    unfold FmQ
    rw [e]
    exact ⟨q1, q2, C', q3, q4, by rw [show cA C' 15 = cA C 15 from q5.2.1 15 (by decide)]; exact v4, v7.sm q5 (by decide), v8.tr q6 (fun _ h => h)⟩
theorem c_sew (hz : CfZ E N B gr) (V : FmW E f g N B gr C0 h0 pre sc) : Ct E 8 yX0_settle cX0_settle 3 none [.ref (gAd E (8))] g (fun v u => v = none ∧ FmW E f u N B gr C0 h0 (pre ++ [none]) sc, fun X u => X = "java/lang/UnsupportedOperationException" ∧ FmQ E f u N B gr C0 h0 (pre ++ [none])) := by
  obtain ⟨v1, C, v2, v3, v4, v5, v6, v7, v8⟩ := V
  have e : hRn N B (true, h0) (pre ++ [none]) = aSe N (hRn N B (true, h0) pre).2 := by rw [hRn_s, hB_t v1]; rfl
  refine (r_se E g N B gr C hz v2 _ v3).mono (fun v u q => ?_) (fun X u q => ?_)
  · obtain ⟨q1, q2, ⟨C', q3, q4, q5⟩, q6⟩ := q
    unfold FmW
    rw [e]
    exact ⟨q1, q2, C', q3, q4, by rw [show cA C' 15 = cA C 15 from q5.2.1 15 (by decide)]; exact v4, by rw [show cA C' 31 = cA C 31 from q5.2.1 31 (by decide)]; exact v5, v6, v7.sm q5 (by decide), v8.tr q6 (fun _ h => h)⟩
  · obtain ⟨q1, q2, ⟨C', q3, q4, q5⟩, q6⟩ := q
    unfold FmQ
    rw [e]
    exact ⟨q1, q2, C', q3, q4, by rw [show cA C' 15 = cA C 15 from q5.2.1 15 (by decide)]; exact v4, v7.sm q5 (by decide), v8.tr q6 (fun _ h => h)⟩
end PZR8a
set_option maxRecDepth 100000 in
set_option maxHeartbeats 4000000 in
theorem r_sa (E : gE) (f : Nat → va_E) (C : CfT) (hz : CfZ E N B gr) (h : CfV E f N B gr C) (hw : Hw) (hh : HwR N B 1 hw C) (hm : hw.2.1.2.2.1 + 1 < 2 ^ 31) (h15 : Byt (cA C 15)) : Ct E 9 yX6_startAnew cX6_startAnew 1 none [.ref (gAd E (13))] f (Rs E N B gr f (aPl N B 1 (mHd [] 0) hw) (fun C' => Sm [0, 1] C C' ∧ Byt (cA C' 15))) := by
  obtain ⟨z1, z2, z3, z4, z5, z6, z7⟩ := id hz
  refine Ct.of (by decide) (Nat.le_of_ble_eq_true rfl) (fun sz => ?_)
  refine G.eql [(0, .ref (gAd E (13)))] rfl ?_
  refine G.go tv_X6_startAnew 1 1 [(0, .ref (gAd E (13)))] [.ref (gAd E (13))] rfl ?_
  refine G.callV (13) [] [] (k_forgetEntries E f N B gr C hz h) cls_X6 (by omega) (h.q13) cw_X6_70 w_779 w_7 (Nat.le_of_ble_eq_true rfl) rfl (Nat.le_of_ble_eq_true rfl) (tbd tv_X6_startAnew rfl) (fun v1 f1 q1 => ?_) (fun _ _ h => h.elim)
  obtain ⟨rfl, hl1, hf1⟩ := q1
  refine G.eqs [] rfl ?_
  have s1 : Sm [1] C (sA (sS C 1305 0) 16 (flt (cA C 16) 0 N (-1))) := (Sm.s (by decide)).tr (Sm.a (by decide))
  have c5 : cS (sA (sS C 1305 0) 16 (flt (cA C 16) 0 N (-1))) 1305 = 0 := (pk_us : upd C.1 1305 0 1305 = 0)
  have c16 : cA (sA (sS C 1305 0) 16 (flt (cA C 16) 0 N (-1))) 16 = flt (cA C 16) 0 N (-1) := rfl
  have c15 : cA (sA (sS C 1305 0) 16 (flt (cA C 16) 0 N (-1))) 15 = cA C 15 := rfl
  generalize hC1 : sA (sS C 1305 0) 16 (flt (cA C 16) 0 N (-1)) = C1 at hl1 s1 c5 c16 c15
  refine G.go tv_X6_startAnew 2 6 [(0, .ref (gAd E (13)))] [.int ((0 : Int32)), .ref (gAd E (13))] rfl ?_
  refine G.putfS cls_X6 (13) 6 [.ref (gAd E (2)), .ref (gAd E (8)), .ref (gAd E (14)), .ref (gAd E (15)), .ref (gAd E (16)), .int (cS C1 1305), .int ((0 : Int32))] (by omega) (hl1.q13) rfl (by decide) rfl rfl rfl (Nat.le_of_ble_eq_true rfl) (tbd tv_X6_startAnew rfl) w_328 ?_
  refine G.go tv_X6_startAnew 1 10 [(0, .ref (gAd E (13)))] [.ref (gAd E (13))] rfl ?_
  refine G.getf cls_X6 (13) 1 (by omega) (up_e) (by decide) rfl (tbd tv_X6_startAnew rfl) w_320 ?_
  refine G.go tv_X6_startAnew 2 15 [(0, .ref (gAd E (13)))] [.ref (gAd E (13)), .int ((1 : Int32)), .ref (gAd E (8))] rfl ?_
  have hl2 := hl1.s1306 0
  have hf2 : Fr CfK f (va_up (f1) (13) (.inr (6, [.ref (gAd E (2)), .ref (gAd E (8)), .ref (gAd E (14)), .ref (gAd E (15)), .ref (gAd E (16)), .int (cS C1 1305), .int ((0 : Int32))]))) := hf1.tr (Fr.up (Fr.rf) (Or.inl (by decide)) : Fr CfK f1 _) (fun _ h => h)
  have s2 : Sm [1] C (sS C1 1306 0) := s1.tr (Sm.s (by decide))
  have d5 : cS (sS C1 1306 0) 1305 = 0 := (pk_un (by decide) : upd C1.1 1306 0 1305 = C1.1 1305).trans c5
  have d6 : cS (sS C1 1306 0) 1306 = 0 := (pk_us : upd C1.1 1306 0 1306 = 0)
  have d16 : cA (sS C1 1306 0) 16 = flt (cA C 16) 0 N (-1) := c16
  have d15 : cA (sS C1 1306 0) 15 = cA C 15 := c15
  generalize hC2 : sS C1 1306 0 = C2 at hl2 s2 d5 d6 d16 d15
  have hh2 : HwR N B 1 hw C2 := hh.sm s2 (by decide)
  have hz2 : lgZ N C2 := by
    refine ⟨by rw [d5]; decide, ?_⟩
    show _ ∧ _
    have e0 : (cS C2 1305).toNatClampNeg = 0 := by rw [d5]; rfl
    rw [e0]
    refine ⟨by omega, fun j hj => absurd hj (Nat.not_lt_zero _), by rw [d15]; exact h15, fun t ht => Or.inl ?_⟩
    rw [d16]
    exact flt_at (Nat.zero_le _) ht
  refine G.callV (13) [] [.int ((1 : Int32)), .ref (gAd E (8))] (k_head E _ N B gr C2 hz hl2 hh2.1 (HwR.dv hl2 hh2).2 hz2) cls_X6 (by omega) (up_e) cw_X6_73 w_783 w_8 (Nat.le_of_ble_eq_true rfl) rfl (Nat.le_of_ble_eq_true rfl) (tbd tv_X6_startAnew rfl) (fun v2 f2 q2 => ?_) (fun _ _ h => h.elim)
  obtain ⟨rfl, hl3, hf3⟩ := q2
  refine G.eqs [.ref (gAd E (15)), .int (nI 1), .ref (gAd E (8))] rfl ?_
  have hf4 : Fr CfK f f2 := hf2.tr hf3 (fun _ h => h)
  have hbx : Byt (hdRow (dkOf C2) (cS C2 1305).toNatClampNeg (cS C2 1306) (cA C2 15)) := hdRow_byt (by rw [d15]; exact h15)
  have hnx : nr (hdRow (dkOf C2) (cS C2 1305).toNatClampNeg (cS C2 1306) (cA C2 15)) = mHd [] 0 := by
    rw [d5, d6]
    exact hdRow_eq (L := []) (by decide) (fun c => absurd rfl c) (fun k hk => absurd hk (Nat.not_lt_zero _))
  generalize hdRow (dkOf C2) (cS C2 1305).toNatClampNeg (cS C2 1306) (cA C2 15) = X2 at hl3 hbx hnx
  have s3 : Sm [1] C (sA C2 15 X2) := s2.tr (Sm.a (by decide))
  have e15 : cA (sA C2 15 X2) 15 = X2 := rfl
  generalize sA C2 15 X2 = C3 at hl3 s3 e15
  refine G.callV (8) [.int (nI 1), .ref (gAd E (15))] [] (r_pl E f2 N B gr C3 hz hl3 hw (hh.sm s3 (by decide)) hm 1 15 X2 (by omega) (by omega) (e15 ▸ hl3.q15) hbx (by unfold DBK DkK BfK; omega)) cls_X0 (by omega) hl3.q8 cw_X6_77 w_718 w_719 (Nat.le_of_ble_eq_true rfl) rfl (Nat.le_of_ble_eq_true rfl) (tbd tv_X6_startAnew rfl) (fun v3 f3 q3 => ?_) (fun X g q => ?_)
  · rw [hnx] at q3
    obtain ⟨rfl, q2, ⟨C', q3, q4, q5⟩, q6⟩ := q3
    refine G.eqs [] rfl ?_
    exact G.vret rfl ⟨rfl, q2, ⟨C', q3, q4, (s3.wk (by decide)).tr (q5.wk (by decide)), by rw [show cA C' 15 = cA C3 15 from q5.2.1 15 (by decide), e15]; exact hbx⟩, hf4.tr q6 (fun _ h => h)⟩ (tbd tv_X6_startAnew rfl)
  · rw [hnx] at q
    obtain ⟨q1, q2, ⟨C', q3, q4, q5⟩, q6⟩ := q
    exact ⟨q1, q2, ⟨C', q3, q4, (s3.wk (by decide)).tr (q5.wk (by decide)), by rw [show cA C' 15 = cA C3 15 from q5.2.1 15 (by decide), e15]; exact hbx⟩, hf4.tr q6 (fun _ h => h)⟩
theorem c_saw {E : gE} {f g : Nat → va_E} {C0 : CfT} {h0 : Hw} {pre : List HOp} {sc : Nat → Int32} (hz : CfZ E N B gr) (V : FmW E f g N B gr C0 h0 pre sc) (hs : hSp h0 + pre.length + 1 < 2 ^ 31) : Ct E 9 yX6_startAnew cX6_startAnew 1 none [.ref (gAd E (13))] g (fun v u => v = none ∧ FmW E f u N B gr C0 h0 (pre ++ [some (1, mHd [] 0)]) sc, fun X u => X = "java/lang/UnsupportedOperationException" ∧ FmQ E f u N B gr C0 h0 (pre ++ [some (1, mHd [] 0)])) := by
  obtain ⟨v1, C, v2, v3, v4, v5, v6, v7, v8⟩ := V
  have hsp : hSp (hRn N B (true, h0) pre).2 ≤ hSp h0 + pre.length := hRn_sp pre (true, h0)
  have e : hRn N B (true, h0) (pre ++ [some (1, mHd [] 0)]) = aPl N B 1 (mHd [] 0) (hRn N B (true, h0) pre).2 := by rw [hRn_s, hB_t v1]; rfl
  refine (r_sa E g C hz v2 _ v3 (by unfold hSp at hsp hs; omega) v4).mono (fun v u q => ?_) (fun X u q => ?_)
  · obtain ⟨q1, q2, ⟨C', q3, q4, q5, q7⟩, q6⟩ := q
    unfold FmW
    rw [e]
    exact ⟨q1, q2, C', q3, q4, q7, by rw [show cA C' 31 = cA C 31 from q5.2.1 31 (by decide)]; exact v5, v6, v7.sm q5 (fun _ h => h), v8.tr q6 (fun _ h => h)⟩
  · obtain ⟨q1, q2, ⟨C', q3, q4, q5, q7⟩, q6⟩ := q
    unfold FmQ
    rw [e]
    exact ⟨q1, q2, C', q3, q4, q7, v7.sm q5 (fun _ h => h), v8.tr q6 (fun _ h => h)⟩
def z0 : Nat → Int32 := fun _ => 0
def zB (x : Nat → Int32) : Prop := ∀ k, 128 ≤ k → x k = 0
theorem zB.f {x : Nat → Int32} (h : zB x) : flt x 0 128 0 = z0 := by
  funext k
  unfold flt z0
  by_cases c : 0 ≤ k ∧ k < 128
  · rw [if_pos c]
  · rw [if_neg c]
    exact h k (by omega)
theorem zB.u {x : Nat → Int32} {i : Nat} {v : Int32} (h : zB x) (hi : i < 128) : zB (upd x i v) := fun k hk => (pk_un (by omega)).trans (h k hk)
theorem zB.z : zB z0 := fun _ _ => rfl
theorem cBt_zB {x : Nat → Int32} (h : zB x) : ∀ k, k ≤ 1024 → zB (cBt N x k)
  | 0, _ => h
  | k + 1, hk => by
    unfold cBt
    split
    · exact (cBt_zB h k (by omega)).u (by omega)
    · exact cBt_zB h k (by omega)
theorem fRow_z {t : Nat} {x : Nat → Int32} (h : zB x) : fRow N t x = fRow N t z0 := by
  unfold fRow
  rw [h.f, zB.z.f]
theorem fRow_zB {t : Nat} : zB (fRow N t z0) := by
  unfold fRow
  rw [zB.z.f]
  split
  · exact cBt_zB zB.z _ (Nat.le_refl _)
  · split
    · exact zB.z.u (by decide)
    · split
      · exact (zB.z.u (by decide)).u (by decide)
      · exact zB.z
theorem hRow_z {x : Nat → Int32} (h : zB x) : hRow N x = hRow N z0 := by
  unfold hRow
  rw [h.f, zB.z.f]
theorem z0_b : Byt z0 := fun _ => rfl
/-- what format does, so far as row j of its loop -/
def fmP (N : Nat) : Nat → List HOp
  | 0 => [some (0, nr z0), none, some (1, mHd [] 0)]
  | j + 1 => fmP N j ++ [some (43 + j, nr (fRow N (43 + j) z0))]
def fmL (N : Nat) : List HOp := fmP N 18 ++ [none] ++ [some (0, nr (hRow N z0))] ++ [none]
theorem fmP_l : ∀ j, (fmP N j).length = 3 + j
  | 0 => rfl
  | j + 1 => by
    show (fmP N j ++ [_]).length = _
    rw [List.length_append, fmP_l j]
    rfl
theorem fmP_x {E : gE} {f g : Nat → va_E} {C0 : CfT} {h0 : Hw} {j : Nat} (h : FmQ E f g N B gr C0 h0 (fmP N j)) : ∀ n, FmQ E f g N B gr C0 h0 (fmP N (j + n))
  | 0 => h
  | n + 1 => (fmP_x h n).ext _
theorem fmP_q {E : gE} {f g : Nat → va_E} {C0 : CfT} {h0 : Hw} {j : Nat} (h : FmQ E f g N B gr C0 h0 (fmP N j)) (hj : j ≤ 18) : FmQ E f g N B gr C0 h0 (fmL N) := by
  have q := fmP_x h (18 - j)
  rw [show j + (18 - j) = 18 by omega] at q
  exact ((q.ext _).ext _).ext _
set_option maxRecDepth 100000 in
set_option maxHeartbeats 4000000 in
theorem fo_w (E : gE) (f : Nat → va_E) (sz : Nat) (A : Nat → Prop) (Qn : Option Value → (Nat → va_E) → Prop) (fd : Nat) (C0 : CfT) (h0 : Hw) (hz : CfZ E N B gr) (hsp : hSp h0 + 100 < 2 ^ 31) (h1 : cS C0 1 = nI fd) (h2 : cS C0 2 = 0) (kq : ∀ g sc, zB sc → FmW E f g N B gr C0 h0 (fmP N 18) sc → G E (10, yX11_format, 3, (some .int), sz, A) cX11_format (gO E (10, yX11_format, 3, (some .int), sz, A) (Qn, fun X g => X = "java/lang/UnsupportedOperationException" ∧ FmQ E f g N B gr C0 h0 (fmL N))) 70 [(0, .ref (gAd E (0))), (1, .ref (gAd E (31))), (2, .int (nI (43 + 18)))] [] g) : ∀ (z j : Nat), j + z = 18 → ∀ g sc, zB sc → FmW E f g N B gr C0 h0 (fmP N j) sc → G E (10, yX11_format, 3, (some .int), sz, A) cX11_format (gO E (10, yX11_format, 3, (some .int), sz, A) (Qn, fun X g => X = "java/lang/UnsupportedOperationException" ∧ FmQ E f g N B gr C0 h0 (fmL N))) 43 [(0, .ref (gAd E (0))), (1, .ref (gAd E (31))), (2, .int (nI (43 + j)))] [] g := by
  obtain ⟨z1, z2, z3, z4, z5, z6, z7⟩ := id hz
  intro z
  induction z with
  | zero =>
    intro j e g sc hb V
    have e : j = 18 := e
    refine G.go tv_X11_format 2 46 [(0, .ref (gAd E (0))), (1, .ref (gAd E (31))), (2, .int (nI (43 + j)))] [.int ((61 : Int32)), .int (nI (43 + j))] rfl ?_
    refine G.cmp_ge 70 (tbd tv_X11_format rfl) (by decide) (fun c46 => ?_) (fun c46 => absurd (by rw [e]; exact (nI_le (Nat.le_refl _) (by omega) : nI 61 ≤ nI 61)) c46)
    refine G.eql [(0, .ref (gAd E (0))), (1, .ref (gAd E (31))), (2, .int (nI (43 + 18)))] (by rw [e]) ?_
    exact kq _ sc hb (e ▸ V)
  | succ z ih =>
    intro j e g sc hb V
    obtain ⟨d, on, le, wr, ss, hd2⟩ := V.o2
    refine G.go tv_X11_format 2 46 [(0, .ref (gAd E (0))), (1, .ref (gAd E (31))), (2, .int (nI (43 + j)))] [.int ((61 : Int32)), .int (nI (43 + j))] rfl ?_
    refine G.cmp_ge 70 (tbd tv_X11_format rfl) (by decide) (fun c46 => absurd c46 ((nI_ge (by omega) (by omega) : ¬ nI 61 ≤ nI (43 + j)))) (fun c46 => ?_)
    refine G.go tv_X11_format 3 52 [(0, .ref (gAd E (0))), (1, .ref (gAd E (31))), (2, .int (nI (43 + j)))] [.ref (gAd E (31)), .int (nI (43 + j)), .ref (gAd E (0))] rfl ?_
    refine G.callV (0) [.int (nI (43 + j)), .ref (gAd E (31))] [] (c_X11_formatRow E _ z0 fd 0 (by omega) N d on le wr ss z2 (V.o0 h1 h2) hd2 sc V.o31 (43 + j) (by omega)) cls_X11 (by omega) (V.o0 h1 h2) cw_X11_178 w_807 w_10 (Nat.le_of_ble_eq_true rfl) rfl (Nat.le_of_ble_eq_true rfl) (tbd tv_X11_format rfl) (fun v1 f1 q1 => ?_) (fun _ _ h => h.elim)
    obtain ⟨rfl, hu1, hf1⟩ := q1
    refine G.eqs [] rfl ?_
    rw [fRow_z hb] at hu1
    have V1 := FmW.row V hu1 (fRow_b z0_b) hf1
    obtain ⟨faV1, h8V1⟩ := V1.o8
    refine G.go tv_X11_format 1 56 [(0, .ref (gAd E (0))), (1, .ref (gAd E (31))), (2, .int (nI (43 + j)))] [.ref (gAd E (0))] rfl ?_
    refine G.getf cls_X11 (0) 4 (by omega) (V1.o0 h1 h2) (by decide) rfl (tbd tv_X11_format rfl) w_567 ?_
    refine G.go tv_X11_format 2 61 [(0, .ref (gAd E (0))), (1, .ref (gAd E (31))), (2, .int (nI (43 + j)))] [.ref (gAd E (31)), .int (nI (43 + j)), .ref (gAd E (8))] rfl ?_
    refine G.eqs [.ref (gAd E (31)), .int (nI (43 + j)), .ref (gAd E (8))] rfl ?_
    refine G.callV (8) [.int (nI (43 + j)), .ref (gAd E (31))] [] (c_plw hz V1 (by rw [fmP_l]; omega) (43 + j) (by omega)) cls_X0 (by omega) (h8V1) cw_X11_168 w_718 w_719 (Nat.le_of_ble_eq_true rfl) rfl (Nat.le_of_ble_eq_true rfl) (tbd tv_X11_format rfl) (fun v2 f2 q2 => ?_) (fun X g h => ⟨h.1, fmP_q (j := j + 1) h.2 (by omega)⟩)
    obtain ⟨rfl, V2⟩ := q2
    refine G.eqs [] rfl ?_
    refine G.go tv_X11_format 2 43 [(0, .ref (gAd E (0))), (1, .ref (gAd E (31))), (2, .int (nI (43 + j) + (1 : Int32)))] [] rfl ?_
    refine G.eql [(0, .ref (gAd E (0))), (1, .ref (gAd E (31))), (2, .int (nI (43 + (j + 1))))] (by rw [nI_1]; rfl) ?_
    exact ih (j + 1) (by omega) _ _ fRow_zB V2
set_option maxRecDepth 100000 in
set_option maxHeartbeats 4000000 in
theorem r_fmt (E : gE) (f : Nat → va_E) (fd : Nat) (C0 : CfT) (h0 : Hw) (hz : CfZ E N B gr) (h : CfV E f N B gr C0) (hh : HwR N B 1 h0 C0) (h15 : Byt (cA C0 15)) (hsp : hSp h0 + 100 < 2 ^ 31) (h1 : cS C0 1 = nI fd) (hfd : fd ≤ 1024) (h2 : cS C0 2 = 0) : Ct E 10 yX11_format cX11_format 3 (some .int) [.ref (gAd E (0))] f (fun v g => v = some (.int (nI (N - 61))) ∧ ∃ sc, FmW E f g N B gr C0 h0 (fmL N) sc, fun X g => X = "java/lang/UnsupportedOperationException" ∧ FmQ E f g N B gr C0 h0 (fmL N)) := by
  obtain ⟨z1, z2, z3, z4, z5, z6, z7⟩ := id hz
  have m0 : f 0 = .inr (11, [.ref (gAd E (1)), .int (nI fd), .int (0), .ref (gAd E (2)), .ref (gAd E (8)), .ref (gAd E (13)), .ref (gAd E (17)), .ref (gAd E (25)), .ref (gAd E (37)), .ref (gAd E (32)), .ref (gAd E (40)), .ref (gAd E (41)), .ref (gAd E (44)), .ref (gAd E (47)), .ref (gAd E (50)), .ref (gAd E (53)), .ref (gAd E (54)), .ref (gAd E (55))]) := by rw [h.q0, h1, h2]
  have mn := h.mn h1
  rw [h2] at mn
  obtain ⟨hd1, hd2⟩ := HwR.dv h hh
  refine Ct.of (by decide) (Nat.le_of_ble_eq_true rfl) (fun sz => ?_)
  refine G.eql [(0, .ref (gAd E (0)))] rfl ?_
  refine G.go tv_X11_format 1 1 [(0, .ref (gAd E (0)))] [.ref (gAd E (0))] rfl ?_
  refine G.callV (0) [] [] (c_X11_needUnmounted E f (cA C0 1) fd 0 (by omega) mn hfd N (dkOf C0) 1 _ _ _ (by omega) z2 hd1 hd2) cls_X11 (by omega) (m0) cw_X11_156 w_644 w_1 (Nat.le_of_ble_eq_true rfl) rfl (Nat.le_of_ble_eq_true rfl) (tbd tv_X11_format rfl) (fun v1 f1 q1 => ?_) (fun X g q => absurd ⟨rfl, by decide⟩ q.2.2)
  obtain ⟨rfl, rfl, hm0, hon⟩ := q1
  refine G.eqs [] rfl ?_
  refine G.go tv_X11_format 1 5 [(0, .ref (gAd E (0)))] [.ref (gAd E (0))] rfl ?_
  refine G.getf cls_X11 (0) 7 (by omega) (m0) (by decide) rfl (tbd tv_X11_format rfl) w_570 ?_
  refine G.getf cls_X10 (25) 10 (by omega) (h.q25) (by decide) rfl (tbd tv_X11_format rfl) w_421 ?_
  refine G.go tv_X11_format 3 14 [(0, .ref (gAd E (0))), (1, .ref (gAd E (31)))] [.int ((0 : Int32)), .ref (gAd E (31))] rfl ?_
  refine G.callS [.ref (gAd E (31)), .int ((0 : Int32))] [] (c_J7_fill_031fb E _ 31 (128) (cA C0 31) ((0 : Int32)) (by omega) (h.q31) (by omega)) cw_X11_162 w_715 (Nat.le_of_ble_eq_true rfl) rfl (Nat.le_of_ble_eq_true rfl) (tbd tv_X11_format rfl) (fun v2 f2 q2 => ?_) (fun _ _ h => h.elim)
  obtain ⟨rfl, rfl⟩ := q2
  refine G.eqs [] rfl ?_
  refine G.sw (j := 31) (n := 128) (x := flt (cA C0 31) 0 128 0) (x' := z0) up_e (fun i hi => flt_at (Nat.zero_le _) hi) ?_
  have Vz : FmW E f (va_up (va_up f 31 (oB (gDA E) 128 (flt (cA C0 31) 0 128 0))) 31 (oB (gDA E) 128 z0)) N B gr C0 h0 [] z0 := ⟨rfl, sA (sA C0 31 _) 31 z0, (h.p31 _).p31 z0, hh.sm ((Sm.a (L := [3]) (by decide)).tr (Sm.a (by decide))) (by decide), h15, rfl, z0_b, Sx.rf.row.row, Fr.up (Fr.up Fr.rf (Or.inl (by decide))) (Or.inl (by decide))⟩
  obtain ⟨faVz, h8Vz⟩ := Vz.o8
  refine G.go tv_X11_format 1 18 [(0, .ref (gAd E (0))), (1, .ref (gAd E (31)))] [.ref (gAd E (0))] rfl ?_
  refine G.getf cls_X11 (0) 4 (by omega) (Vz.o0 h1 h2) (by decide) rfl (tbd tv_X11_format rfl) w_567 ?_
  refine G.go tv_X11_format 2 23 [(0, .ref (gAd E (0))), (1, .ref (gAd E (31)))] [.ref (gAd E (31)), .int ((0 : Int32)), .ref (gAd E (8))] rfl ?_
  refine G.eqs [.ref (gAd E (31)), .int (nI (0)), .ref (gAd E (8))] rfl ?_
  refine G.callV (8) [.int (nI (0)), .ref (gAd E (31))] [] (c_plw hz Vz (by show _ + 0 + 1 < _; omega) (0) (by omega)) cls_X0 (by omega) (h8Vz) cw_X11_168 w_718 w_719 (Nat.le_of_ble_eq_true rfl) rfl (Nat.le_of_ble_eq_true rfl) (tbd tv_X11_format rfl) (fun v3 f3 q3 => ?_) (fun X g q => ⟨q.1, fmP_q (j := 0) (q.2.ext [none, some (1, mHd [] 0)]) (by decide)⟩)
  obtain ⟨rfl, V3⟩ := q3
  refine G.eqs [] rfl ?_
  obtain ⟨faV3, h8V3⟩ := V3.o8
  refine G.go tv_X11_format 1 27 [(0, .ref (gAd E (0))), (1, .ref (gAd E (31)))] [.ref (gAd E (0))] rfl ?_
  refine G.getf cls_X11 (0) 4 (by omega) (V3.o0 h1 h2) (by decide) rfl (tbd tv_X11_format rfl) w_567 ?_
  refine G.callV (8) [] [] (c_sew hz V3) cls_X0 (by omega) (h8V3) cw_X11_172 w_762 w_763 (Nat.le_of_ble_eq_true rfl) rfl (Nat.le_of_ble_eq_true rfl) (tbd tv_X11_format rfl) (fun v4 f4 q4 => ?_) (fun X g q => ⟨q.1, fmP_q (j := 0) (q.2.ext [some (1, mHd [] 0)]) (by decide)⟩)
  obtain ⟨rfl, V4⟩ := q4
  refine G.eqs [] rfl ?_
  obtain ⟨fbV4, h13V4⟩ := V4.o13
  refine G.go tv_X11_format 1 34 [(0, .ref (gAd E (0))), (1, .ref (gAd E (31)))] [.ref (gAd E (0))] rfl ?_
  refine G.getf cls_X11 (0) 5 (by omega) (V4.o0 h1 h2) (by decide) rfl (tbd tv_X11_format rfl) w_568 ?_
  refine G.callV (13) [] [] (c_saw hz V4 (by show _ + 2 + 1 < _; omega)) cls_X6 (by omega) (h13V4) cw_X11_175 w_774 w_775 (Nat.le_of_ble_eq_true rfl) rfl (Nat.le_of_ble_eq_true rfl) (tbd tv_X11_format rfl) (fun v5 f5 q5 => ?_) (fun X g q => ⟨q.1, fmP_q (j := 0) q.2 (by decide)⟩)
  obtain ⟨rfl, V5⟩ := q5
  refine G.eqs [] rfl ?_
  refine G.go tv_X11_format 2 43 [(0, .ref (gAd E (0))), (1, .ref (gAd E (31))), (2, .int ((43 : Int32)))] [] rfl ?_
  refine fo_w E f _ _ _ fd C0 h0 hz hsp h1 h2 ?_ 18 0 (by omega) _ z0 zB.z V5
  intro g sc hb V9
  obtain ⟨faV9, h8V9⟩ := V9.o8
  refine G.go tv_X11_format 1 71 [(0, .ref (gAd E (0))), (1, .ref (gAd E (31))), (2, .int (nI (43 + 18)))] [.ref (gAd E (0))] rfl ?_
  refine G.getf cls_X11 (0) 4 (by omega) (V9.o0 h1 h2) (by decide) rfl (tbd tv_X11_format rfl) w_567 ?_
  refine G.callV (8) [] [] (c_sew hz V9) cls_X0 (by omega) (h8V9) cw_X11_172 w_762 w_763 (Nat.le_of_ble_eq_true rfl) rfl (Nat.le_of_ble_eq_true rfl) (tbd tv_X11_format rfl) (fun v6 f6 q6 => ?_) (fun X g q => ⟨q.1, (q.2.ext _).ext _⟩)
  obtain ⟨rfl, V6⟩ := q6
  refine G.eqs [] rfl ?_
  obtain ⟨d, on, le, wr, ss, hd9⟩ := V6.o2
  refine G.go tv_X11_format 2 79 [(0, .ref (gAd E (0))), (1, .ref (gAd E (31))), (2, .int (nI (43 + 18)))] [.ref (gAd E (31)), .ref (gAd E (0))] rfl ?_
  refine G.callV (0) [.ref (gAd E (31))] [] (c_X11_headRow E _ z0 fd 0 (by omega) N d on le wr ss z2 (V6.o0 h1 h2) hd9 sc V6.o31) cls_X11 (by omega) (V6.o0 h1 h2) cw_X11_181 w_811 w_11 (Nat.le_of_ble_eq_true rfl) rfl (Nat.le_of_ble_eq_true rfl) (tbd tv_X11_format rfl) (fun v7 f7 q7 => ?_) (fun _ _ h => h.elim)
  obtain ⟨rfl, hu7, hf7⟩ := q7
  refine G.eqs [] rfl ?_
  rw [hRow_z hb] at hu7
  have V7 := FmW.row V6 hu7 (hRow_b z0_b) hf7
  obtain ⟨faV7, h8V7⟩ := V7.o8
  refine G.go tv_X11_format 1 83 [(0, .ref (gAd E (0))), (1, .ref (gAd E (31))), (2, .int (nI (43 + 18)))] [.ref (gAd E (0))] rfl ?_
  refine G.getf cls_X11 (0) 4 (by omega) (V7.o0 h1 h2) (by decide) rfl (tbd tv_X11_format rfl) w_567 ?_
  refine G.go tv_X11_format 2 88 [(0, .ref (gAd E (0))), (1, .ref (gAd E (31))), (2, .int (nI (43 + 18)))] [.ref (gAd E (31)), .int ((0 : Int32)), .ref (gAd E (8))] rfl ?_
  refine G.eqs [.ref (gAd E (31)), .int (nI (0)), .ref (gAd E (8))] rfl ?_
  refine G.callV (8) [.int (nI (0)), .ref (gAd E (31))] [] (c_plw hz V7 (by rw [List.length_append, fmP_l]; show _ + (3 + 18 + 1) + 1 < _; omega) (0) (by omega)) cls_X0 (by omega) (h8V7) cw_X11_168 w_718 w_719 (Nat.le_of_ble_eq_true rfl) rfl (Nat.le_of_ble_eq_true rfl) (tbd tv_X11_format rfl) (fun v8 f8 q8 => ?_) (fun X g q => ⟨q.1, q.2.ext _⟩)
  obtain ⟨rfl, V8⟩ := q8
  refine G.eqs [] rfl ?_
  obtain ⟨faV8, h8V8⟩ := V8.o8
  refine G.go tv_X11_format 1 92 [(0, .ref (gAd E (0))), (1, .ref (gAd E (31))), (2, .int (nI (43 + 18)))] [.ref (gAd E (0))] rfl ?_
  refine G.getf cls_X11 (0) 4 (by omega) (V8.o0 h1 h2) (by decide) rfl (tbd tv_X11_format rfl) w_567 ?_
  refine G.callV (8) [] [] (c_sew hz V8) cls_X0 (by omega) (h8V8) cw_X11_172 w_762 w_763 (Nat.le_of_ble_eq_true rfl) rfl (Nat.le_of_ble_eq_true rfl) (tbd tv_X11_format rfl) (fun v9 f9 q9 => ?_) (fun X g q => ⟨q.1, q.2⟩)
  obtain ⟨rfl, V9⟩ := q9
  refine G.eqs [] rfl ?_
  obtain ⟨d, on, le, wr, ss, hd9⟩ := V9.o2
  refine G.go tv_X11_format 1 99 [(0, .ref (gAd E (0))), (1, .ref (gAd E (31))), (2, .int (nI (43 + 18)))] [.ref (gAd E (0))] rfl ?_
  refine G.getf cls_X11 (0) 3 (by omega) (V9.o0 h1 h2) (by decide) rfl (tbd tv_X11_format rfl) w_566 ?_
  refine G.getf cls_X2 (2) 0 (by omega) (hd9) (by decide) rfl (tbd tv_X11_format rfl) w_229 ?_
  refine G.go tv_X11_format 2 108 [(0, .ref (gAd E (0))), (1, .ref (gAd E (31))), (2, .int (nI (43 + 18)))] [.int ((nI N) - ((61 : Int32)))] rfl ?_
  exact G.iret rfl rfl ⟨by rw [show (61 : Int32) = nI 61 from rfl, pk_sub (by omega)], _, V9⟩ (tbd tv_X11_format rfl)
end PZR8
