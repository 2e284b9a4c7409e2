/-! ===== the state of the class's model, and how the class stands for it ===== -/
section DCB
/-- the hardware, the log, its turn, the queue, who rests, own rows, those taken as tables, whether a group is open -/
abbrev MS : Type := Hw × List En × Int32 × List QC × (Nat → Nat) × QC × (Nat → Bool) × Bool
/-- what is seen -/
def vA (A : MS) (b : Nat) : Rw := vSee A.1 A.2.1 A.2.2.2.1 A.2.2.2.2.2.1 b
def rsA (rs : Nat → Nat) (b : Nat) : Int32 := if rs b = 0 then 0 else 1
/-- own rows, and those taken as tables (what is touched stands in D) -/
def VwW (N : Nat) (C : CfT) (ow : QC) (tk : Nat → Bool) : Prop := ∀ b, b < N → Byt (cR C 2 b) ∧ cA C 28 b = (if tk b then 1 else 0) ∧ ((cA C 27 b = 0 ∧ ow b = none) ∨ (cA C 27 b = 1 ∧ ow b = some (nr (cR C 2 b))))
/-- all that is not hardware, log, queue and view is as in D; and so is what the view has touched -/
def Dq (D C : CfT) : Prop := (∀ j, md (j / 100) ∉ [0, 1, 2, 3] ∨ j = 2508 → C.1 j = D.1 j) ∧ ∀ k, md k ∉ [0, 1, 2, 3] ∨ k = 29 → C.2.1 k = D.2.1 k
def AR (N B gr : Nat) (A : MS) (C : CfT) : Prop := HwR N B 1 A.1 C ∧ HOk N B A.1 ∧ LgR N C A.2.1 A.2.2.1 ∧ LgD A.1 A.2.1 ∧ (∃ en, QeR N gr C A.2.2.2.1 en) ∧ (∀ r, r < gr * 40 → Byt (cR C 4 r)) ∧ RsR N C A.2.2.2.2.1 ∧ VwW N C A.2.2.2.2.2.1 A.2.2.2.2.2.2.1 ∧ cS C 2511 = (if A.2.2.2.2.2.2.2 then 1 else 0)
theorem QeR.sm {N gr : Nat} {C C' : CfT} {qs : List QC} {en : Nat → Nat} (h : QeR N gr C qs en) (e1 : cS C' 1708 = cS C 1708) (e2 : cS C' 1707 = cS C 1707) (e22 : cA C' 22 = cA C 22) (e20 : cA C' 20 = cA C 20) (e19 : cA C' 19 = cA C 19) (s3 : C'.2.2 4 = C.2.2 4) : QeR N gr C' qs en := by
  have e4 : ∀ r, cR C' 4 r = cR C 4 r := fun r => congrFun s3 r
  have eb : ∀ r, qBk C' r = qBk C r := fun r => by unfold qBk; rw [e19]
  obtain ⟨h1, h2, h3, h4, h5, h6⟩ := h
  refine ⟨h1, e1.trans h2, h3, e2.trans h4, fun i hi => ?_, fun b hb => ?_⟩
  · obtain ⟨q1, q2, q3, q4, q5, q6⟩ := h5 i hi
    refine ⟨by rw [e22]; exact q1, q2, q3, fun r hr1 hr2 => ?_, fun b x hb => ?_, fun r s a1 a2 a3 a4 e => ?_⟩
    · rw [eb, e19, e4]
      exact q4 r hr1 hr2
    · obtain ⟨r, hr⟩ := q5 b x hb
      exact ⟨r, by rw [eb]; exact hr⟩
    · rw [eb, eb] at e
      exact q6 r s a1 a2 a3 a4 e
  · rcases h6 b hb with ⟨q1, q2⟩ | ⟨r, q1, q2, q3⟩
    · exact Or.inl ⟨by rw [e20]; exact q1, q2⟩
    · exact Or.inr ⟨r, q1, by rw [e20]; exact q2, by rw [e4]; exact q3⟩
theorem QeR.smL {N gr : Nat} {C C' : CfT} {qs : List QC} {en : Nat → Nat} {L : List Nat} (h : QeR N gr C qs en) (hs : Sm L C C') (hL : 2 ∉ L) : QeR N gr C' qs en := h.sm (hs.1 1708 hL) (hs.1 1707 hL) (hs.2.1 22 hL) (hs.2.1 20 hL) (hs.2.1 19 hL) (hs.2.2 4 hL)
theorem VwW.sm {N : Nat} {C C' : CfT} {ow : QC} {tk : Nat → Bool} (h : VwW N C ow tk) (e3 : cA C' 27 = cA C 27) (e4 : cA C' 28 = cA C 28) (e5 : ∀ b, cR C' 2 b = cR C 2 b) : VwW N C' ow tk := by
  unfold VwW
  rw [e3, e4]
  intro b hb
  rw [e5]
  exact h b hb
/-- nothing changed but what stands in D -/
def Sd (C C' : CfT) : Prop := (∀ j, ¬ (md (j / 100) ∉ [0, 1, 2, 3] ∨ j = 2508) → C'.1 j = C.1 j) ∧ (∀ k, ¬ (md k ∉ [0, 1, 2, 3] ∨ k = 29) → C'.2.1 k = C.2.1 k) ∧ C'.2.2 = C.2.2
theorem Sd.s {C : CfT} {j : Nat} {v : Int32} (h : md (j / 100) ∉ [0, 1, 2, 3] ∨ j = 2508) : Sd C (sS C j v) := ⟨fun i q => pk_un (fun e => q (by rw [e]; exact h)), fun _ _ => rfl, rfl⟩
theorem Sd.a {C : CfT} {k : Nat} {v : Nat → Int32} (h : md k ∉ [0, 1, 2, 3] ∨ k = 29) : Sd C (sA C k v) := ⟨fun _ _ => rfl, fun i q => if_neg (fun e => q (by rw [e]; exact h)), rfl⟩
theorem AR.sm {N B gr : Nat} {A : MS} {C C' : CfT} (h : AR N B gr A C) (hs : Sd C C') : AR N B gr A C' := by
  obtain ⟨h1, h2, h3, h4, ⟨en, h5⟩, h6, h7, h8, h9⟩ := h
  obtain ⟨s1, s2, s3⟩ := hs
  have e : dbOf C' = dbOf C := by
    unfold dbOf dkOf bfOf cA cR cS
    rw [s2 3 (by decide), s2 6 (by decide), s2 7 (by decide), s3, s1 206 (by decide), s1 207 (by decide), s2 10 (by decide), s2 11 (by decide), s2 12 (by decide), s1 805 (by decide), s1 806 (by decide), s1 807 (by decide), s1 209 (by decide), s1 210 (by decide), s1 211 (by decide)]
  have er : ∀ m r, cR C' m r = cR C m r := fun m r => congrFun (congrFun s3 m) r
  refine ⟨⟨?_, by rw [e]; exact h1.2.1, (s1 208 (by decide)).trans h1.2.2⟩, h2, ?_, h4, ⟨en, h5.sm (s1 1708 (by decide)) (s1 1707 (by decide)) (s2 22 (by decide)) (s2 20 (by decide)) (s2 19 (by decide)) (by rw [s3])⟩, fun r hr => by rw [er]; exact h6 r hr, h7.sm (s1 1711 (by decide)) (s1 1712 (by decide)) (s2 23 (by decide)) (s2 24 (by decide)), h8.sm (s2 27 (by decide)) (s2 28 (by decide)) (fun b => er 2 b), (s1 2511 (by decide)).trans h9⟩
  · obtain ⟨n1, n2, n3, n4⟩ := h1.1
    exact ⟨by rw [show cS C' 206 = cS C 206 from s1 206 (by decide)]; exact n1, by rw [show cS C' 207 = cS C 207 from s1 207 (by decide)]; exact n2, by rw [show cS C' 805 = cS C 805 from s1 805 (by decide)]; exact n3, by rw [show cS C' 806 = cS C 806 from s1 806 (by decide)]; exact n4⟩
  · unfold LgR cS cA
    rw [s1 1305 (by decide), s1 1306 (by decide), s2 14 (by decide), s2 16 (by decide), s2 15 (by decide)]
    exact h3
theorem AR.r23 {N B gr : Nat} {A : MS} {C : CfT} (h : AR N B gr A C) (hN : N ≤ 1024) : ∀ t, t < N → cA C 23 t = rsA A.2.2.2.2.1 t := by
  obtain ⟨q, m, h1, h2, h3, h4, h5, h6, h7⟩ := h.2.2.2.2.2.2.1
  intro t ht
  unfold rsA
  rcases h7 t ht with ⟨q1, q2⟩ | ⟨q1, i, hi, q2⟩
  · rw [q1, q2]
    rfl
  · obtain ⟨b, hb, e1, e2⟩ := h5 i hi
    have e : b = t := by
      have := e1.symm.trans q2
      exact nI_inj (by omega) (by omega) this
    rw [q1, if_neg (by rw [← e, e2]; split <;> decide)]
theorem ArK.tp {N B gr : Nat} {D C : CfT} (hD : Dq D C) : ArK N B gr C 1 1024 (cA D 1) := Or.inl ⟨rfl, rfl, (hD.2 1 (by decide)).symm⟩
/-- a state of the class, as functions change it: rows and tape stay -/
def ST (E : gE) (N B gr : Nat) (f0 : Nat → va_E) (C0 : CfT) (A : MS) (D : CfT) (w : Nat → va_E) : Prop := ∃ C, CfV E w N B gr C ∧ Dq D C ∧ AR N B gr A C ∧ Rq C0 C ∧ Fr CfK f0 w
/-- and where all may change -/
def SN (E : gE) (N B gr : Nat) (f0 : Nat → va_E) (A : MS) (D : CfT) (w : Nat → va_E) : Prop := ∃ C, CfV E w N B gr C ∧ Dq D C ∧ AR N B gr A C ∧ Fr CfK f0 w
theorem Rq.sym {C C' : CfT} (h : Rq C C') : Rq C' C := ⟨h.1.symm, h.2.symm⟩
theorem Dq.ss {D C : CfT} {j : Nat} {v : Int32} (h : Dq D C) : Dq (sS D j v) (sS C j v) := ⟨fun i q => by
  show (if i = j then v else C.1 i) = if i = j then v else D.1 i
  rw [h.1 i q], h.2⟩
theorem Dq.aa {D C : CfT} {k : Nat} {x : Nat → Int32} (h : Dq D C) : Dq (sA D k x) (sA C k x) := ⟨h.1, fun i q => by
  show (if i = k then x else C.2.1 i) = if i = k then x else D.2.1 i
  rw [h.2 i q]⟩
theorem Dq.au {D C : CfT} {k t : Nat} {v : Int32} (h : Dq D C) (hk : md k ∉ [0, 1, 2, 3] ∨ k = 29) : Dq (sA D k (upd (cA D k) t v)) (sA C k (upd (cA C k) t v)) := by
  have e : cA C k = cA D k := h.2 k hk
  rw [e]
  exact h.aa
/-- where the class changed nothing that stands in D -/
theorem Dq.n {D C C' : CfT} (h : Dq D C) (h1 : ∀ j, md (j / 100) ∉ [0, 1, 2, 3] ∨ j = 2508 → C'.1 j = C.1 j) (h2 : ∀ k, md k ∉ [0, 1, 2, 3] ∨ k = 29 → C'.2.1 k = C.2.1 k) : Dq D C' := ⟨fun j q => (h1 j q).trans (h.1 j q), fun k q => (h2 k q).trans (h.2 k q)⟩
theorem Dq.r {D C : CfT} {m j : Nat} {x : Nat → Int32} (h : Dq D C) : Dq D (sR C m j x) := h
theorem Dq.s {D C : CfT} {j : Nat} {v : Int32} (h : Dq D C) (hj : ¬ (md (j / 100) ∉ [0, 1, 2, 3] ∨ j = 2508)) : Dq D (sS C j v) := h.n (fun i q => pk_un (fun e => hj (e ▸ q))) (fun _ _ => rfl)
theorem Dq.a {D C : CfT} {k : Nat} {x : Nat → Int32} (h : Dq D C) (hk : ¬ (md k ∉ [0, 1, 2, 3] ∨ k = 29)) : Dq D (sA C k x) := h.n (fun _ _ => rfl) (fun i q => if_neg (fun (e : i = k) => hk (e ▸ q)))
theorem Dq.sm {D C C' : CfT} {L : List Nat} (h : Dq D C) (hs : Sm L C C') (hL : ∀ m, m ∈ L → m = 0 ∨ m = 1 ∨ m = 2) : Dq D C' := by
  have a : ∀ m, m ∉ [0, 1, 2, 3] → m ∉ L := fun m q z => q (by rcases hL m z with rfl | rfl | rfl <;> decide)
  refine h.n (fun j q => hs.1 j ?_) (fun k q => hs.2.1 k ?_)
  · rcases q with q | rfl
    · exact a _ q
    · exact fun z => by rcases hL _ z with q | q | q <;> exact absurd q (by decide)
  · rcases q with q | rfl
    · exact a _ q
    · exact fun z => by rcases hL _ z with q | q | q <;> exact absurd q (by decide)
end DCB
theorem r_beforeK (E : gE) (f : Nat → va_E) (N B gr : Nat) (C : CfT) (hz : CfZ E N B gr) (h : CfV E f N B gr C) (hw : Hw) (on : Int32) (hh : HwR N B on hw C) (L : List En) (tu : Int32) (hl : LgR N C L tu) (hld : LgD hw L) (qs : List QC) (en : Nat → Nat) (hq : QeR N gr C qs en) (hby : ∀ r, r < gr * 40 → Byt (cR C 4 r)) (b : Nat) (hb : b < N) : Ct E 1 yX10_before cX10_before 3 (some (.array .byte)) [.ref (gAd E (25)), .int (nI b)] f (fun v g => ∃ k, v = some (.ref (gAd E k)) ∧ BeK N B gr k ∧ ArK N B gr C k 128 (befV hw L qs b) ∧ CfV E g N B gr C ∧ Fr CfK f g, fun _ _ => False) := by
  obtain ⟨z1, z2, z3, z4, z5, z6, z7⟩ := id hz
  obtain ⟨y3, y1, y0⟩ := hh.by
  have hen := hq.lg (i := qs.length) (Nat.le_refl _)
  unfold befV
  rcases hq.2.2.2.2.2 b hb with ⟨e20, v20⟩ | ⟨r, hr, e20, v20⟩
  · rw [v20]
    rcases (hl.2.2.2.2.1 b hb).val with ⟨e16, v16⟩ | ⟨k, hk, e16, v16⟩
    · rw [v16]
      rcases hh.sl hb with ⟨e10, v10⟩ | ⟨s, hs, e10, v10⟩
      · have ev : hSee hw b = aRd hw.1 b := hSee_n v10
        rcases hh.la z2 hb with ⟨e6, v6⟩ | ⟨s, hs, e6, v6⟩
        · refine (k_befD E f N B gr C hz h b hb e20 e16 e10 e6).mono (fun v g q => ?_) (fun _ _ q => q)
          obtain ⟨q1, q2, q3⟩ := q
          exact ⟨_, q1, Or.inl ⟨by omega, by omega⟩, Or.inr ⟨rfl, 1, _, by decide, hb, rfl, y1 b, (ev.trans v6).symm⟩, q2, q3⟩
        · refine (k_befE E f N B gr C hz h b hb e20 e16 e10 s hs e6).mono (fun v g q => ?_) (fun _ _ q => q)
          obtain ⟨q1, q2, q3⟩ := q
          exact ⟨_, q1, Or.inl ⟨by omega, by omega⟩, Or.inr ⟨rfl, 0, _, by decide, hs, rfl, y0 s, (ev.trans v6).symm⟩, q2, q3⟩
      · refine (k_befC E f N B gr C hz h b hb e20 e16 s hs e10).mono (fun v g q => ?_) (fun _ _ q => q)
        obtain ⟨q1, q2, q3⟩ := q
        exact ⟨_, q1, Or.inr ⟨by omega, by omega⟩, Or.inr ⟨rfl, 3, _, by decide, hs, rfl, y3 s, v10.symm⟩, q2, q3⟩
    · rw [v16]
      have h40 := hl.2.1
      obtain ⟨d1, d2, d3⟩ := hld k hk
      have e6 : cA C 6 (3 + k) = -1 := CDk.la z2 (show CDk N hw.1 (dkOf C) from hh.2.1.1) (by omega) d1.2
      have v6 : nr (cR C 1 (3 + k)) = (lAt L k).2 := by
        have e := hh.rd z2 (t := 3 + k) (by omega)
        have e2 : dRead (dkOf C) (3 + k) = cR C 1 (3 + k) := by
          show (if cA C 6 (3 + k) = -1 then cR C 1 (3 + k) else _) = _
          rw [if_pos e6]
        rw [e2] at e
        rw [e, ← d2, hSee_n d1.1]
      refine (k_befB E f N B gr C hz h b hb e20 k (by omega) e16 e6).mono (fun v g q => ?_) (fun _ _ q => q)
      obtain ⟨q1, q2, q3⟩ := q
      exact ⟨_, q1, Or.inl ⟨by omega, by omega⟩, Or.inr ⟨rfl, 1, _, by decide, (by show _ < N; omega), rfl, y1 _, v6⟩, q2, q3⟩
  · rw [v20]
    refine (k_befA E f N B gr C hz h b hb r (by omega) e20).mono (fun v g q => ?_) (fun _ _ q => q)
    obtain ⟨q1, q2, q3⟩ := q
    exact ⟨_, q1, Or.inr ⟨by omega, by omega⟩, Or.inr ⟨rfl, 4, _, by decide, (by show _ < gr * 40; omega), rfl, hby r (by omega), rfl⟩, q2, q3⟩

def tb_X10_see : List (Nat × Instr × Nat) := [(0, .aload_n 0, 1), (1, .iload_n 1, 1), (2, .invokevirtual 94, 3), (5, .ifCond .ne 8, 3), (8, .aload_n 0, 1), (9, .getfield 9, 3), (12, .areturn, 1), (13, .aload_n 0, 1), (14, .getfield 45, 3), (17, .iload_n 1, 1), (18, .baload, 1), (19, .ifCond .eq 12, 3), (22, .aload_n 0, 1), (23, .getfield 42, 3), (26, .iload_n 1, 1), (27, .aaload, 1), (28, .goto 8, 3), (31, .aload_n 0, 1), (32, .iload_n 1, 1), (33, .invokevirtual 98, 3), (36, .areturn, 1)]
theorem tv_X10_see : Tv cX10_see tb_X10_see := by
  unfold Tv
  decide +kernel
theorem w_913 : Cond.methodLink "LedgerFiles$View" 94 yX10_isBlock ∈ TB := tp_4 47 (by decide +kernel) rfl
theorem w_916 : Cond.code yX10_isBlock prog_12_method_3_code 2 (some .boolean) ∈ TB := tp_4 50 rfl rfl
theorem cw_X10_94 : Cw RX10 94 yX10_isBlock cX10_isBlock 2 (some .boolean) 1 := ⟨w_913, w_916, w_155, by decide +kernel, by decide +kernel, by decide⟩
theorem w_914 : Cond.instanceMethod yX10_isBlock ∈ TB := tp_4 48 (by decide +kernel) rfl
theorem w_915 : Cond.selects "LedgerFiles$View" yX10_isBlock yX10_isBlock ∈ TB := tp_4 49 (by decide +kernel) rfl
theorem w_917 : Cond.methodLink "LedgerFiles$View" 98 yX10_before ∈ TB := tp_4 51 (by decide +kernel) rfl
theorem w_920 : Cond.code yX10_before prog_12_method_4_code 3 (some (.array .byte)) ∈ TB := tp_4 54 rfl rfl
theorem cw_X10_98 : Cw RX10 98 yX10_before cX10_before 3 (some (.array .byte)) 1 := ⟨w_917, w_920, w_155, by decide +kernel, by decide +kernel, by decide⟩
theorem w_919 : Cond.instanceMethod yX10_before ∈ TB := tp_4 53 (by decide +kernel) rfl
theorem w_16 : Cond.selects "LedgerFiles$View" yX10_before yX10_before ∈ TB := tp_0 16 (by decide +kernel) rfl
set_option maxRecDepth 100000 in
set_option maxHeartbeats 4000000 in
theorem k_see0 (E : gE) (f : Nat → va_E) (N B gr : Nat) (C : CfT) (hz : CfZ E N B gr) (h : CfV E f N B gr C) (A : MS) (hA : AR N B gr A C) (b : Nat) (hb : b < N) (o27 : cA C 27 b = 0) (o1 : A.2.2.2.2.2.1 b = none) : Ct E 2 yX10_see cX10_see 2 (some (.array .byte)) [.ref (gAd E (25)), .int (nI b)] f (fun v g => (∃ k, v = some (.ref (gAd E k)) ∧ ArK N B gr C k 128 (vA A b)) ∧ CfV E g N B gr C ∧ Fr CfK f g, fun _ _ => False) := by
  obtain ⟨z1, z2, z3, z4, z5, z6, z7⟩ := id hz
  obtain ⟨en, hq⟩ := hA.2.2.2.2.1
  refine Ct.of (by decide) (Nat.le_of_ble_eq_true rfl) (fun sz => ?_)
  refine G.eql [(0, .ref (gAd E (25))), (1, .int (nI b))] rfl ?_
  refine G.go tv_X10_see 2 2 [(0, .ref (gAd E (25))), (1, .int (nI b))] [.int (nI b), .ref (gAd E (25))] rfl ?_
  refine G.callV (25) [.int (nI b)] [] (k_isBlock E _ N B gr C hz h b hb) cls_X10 (by omega) (h.q25) cw_X10_94 w_914 w_915 (Nat.le_of_ble_eq_true rfl) rfl (Nat.le_of_ble_eq_true rfl) (tbd tv_X10_see rfl) (fun v1 f1 q1 => ?_) (fun _ _ h => h.elim)
  obtain ⟨rfl, ha1, fa1⟩ := q1
  refine G.eqs [.int ((1 : Int32))] rfl ?_
  refine G.if_ne 13 (tbd tv_X10_see rfl) (by decide) (fun c5 => ?_) (fun c5 => absurd c5 (by decide))
  refine G.go tv_X10_see 1 14 [(0, .ref (gAd E (25))), (1, .int (nI b))] [.ref (gAd E (25))] rfl ?_
  refine G.getf cls_X10 (25) 5 (by omega) (ha1.q25) (by decide) rfl (tbd tv_X10_see rfl) w_415 ?_
  refine G.go tv_X10_see 1 18 [(0, .ref (gAd E (25))), (1, .int (nI b))] [.int (nI b), .ref (gAd E (27))] rfl ?_
  refine G.zaldN (27) (b) (by omega) (ha1.q27) (hb) (by omega) (tbd tv_X10_see rfl) ?_
  refine G.if_eq 31 (tbd tv_X10_see rfl) (by decide) (fun c19 => ?_) (fun c19 => absurd (o27) c19)
  refine G.go tv_X10_see 2 33 [(0, .ref (gAd E (25))), (1, .int (nI b))] [.int (nI b), .ref (gAd E (25))] rfl ?_
  refine G.callV (25) [.int (nI b)] [] (r_beforeK E _ N B gr C hz ha1 A.1 1 hA.1 A.2.1 _ hA.2.2.1 hA.2.2.2.1 A.2.2.2.1 en hq hA.2.2.2.2.2.1 b hb) cls_X10 (by omega) (ha1.q25) cw_X10_98 w_919 w_16 (Nat.le_of_ble_eq_true rfl) rfl (Nat.le_of_ble_eq_true rfl) (tbd tv_X10_see rfl) (fun v2 f2 q2 => ?_) (fun _ _ h => h.elim)
  obtain ⟨k2, rfl, hb2, w2, ha2, fa2⟩ := q2
  refine G.eqs [.ref (gAd E (k2))] rfl ?_
  exact G.aret rfl (⟨⟨_, rfl, by unfold vA vSee; rw [o1]; exact w2⟩, ha2, (fa1.tr fa2 (fun _ h => h))⟩) (tbd tv_X10_see rfl)
set_option maxRecDepth 100000 in
set_option maxHeartbeats 4000000 in
theorem k_see1 (E : gE) (f : Nat → va_E) (N B gr : Nat) (C : CfT) (hz : CfZ E N B gr) (h : CfV E f N B gr C) (A : MS) (hA : AR N B gr A C) (b : Nat) (hb : b < N) (o27 : cA C 27 b = 1) (o1 : A.2.2.2.2.2.1 b = some (nr (cR C 2 b))) (o2 : Byt (cR C 2 b)) : Ct E 2 yX10_see cX10_see 2 (some (.array .byte)) [.ref (gAd E (25)), .int (nI b)] f (fun v g => (∃ k, v = some (.ref (gAd E k)) ∧ ArK N B gr C k 128 (vA A b)) ∧ CfV E g N B gr C ∧ Fr CfK f g, fun _ _ => False) := by
  obtain ⟨z1, z2, z3, z4, z5, z6, z7⟩ := id hz
  refine Ct.of (by decide) (Nat.le_of_ble_eq_true rfl) (fun sz => ?_)
  refine G.eql [(0, .ref (gAd E (25))), (1, .int (nI b))] rfl ?_
  refine G.go tv_X10_see 2 2 [(0, .ref (gAd E (25))), (1, .int (nI b))] [.int (nI b), .ref (gAd E (25))] rfl ?_
  refine G.callV (25) [.int (nI b)] [] (k_isBlock E _ N B gr C hz h b hb) cls_X10 (by omega) (h.q25) cw_X10_94 w_914 w_915 (Nat.le_of_ble_eq_true rfl) rfl (Nat.le_of_ble_eq_true rfl) (tbd tv_X10_see rfl) (fun v1 f1 q1 => ?_) (fun _ _ h => h.elim)
  obtain ⟨rfl, ha1, fa1⟩ := q1
  refine G.eqs [.int ((1 : Int32))] rfl ?_
  refine G.if_ne 13 (tbd tv_X10_see rfl) (by decide) (fun c5 => ?_) (fun c5 => absurd c5 (by decide))
  refine G.go tv_X10_see 1 14 [(0, .ref (gAd E (25))), (1, .int (nI b))] [.ref (gAd E (25))] rfl ?_
  refine G.getf cls_X10 (25) 5 (by omega) (ha1.q25) (by decide) rfl (tbd tv_X10_see rfl) w_415 ?_
  refine G.go tv_X10_see 1 18 [(0, .ref (gAd E (25))), (1, .int (nI b))] [.int (nI b), .ref (gAd E (27))] rfl ?_
  refine G.zaldN (27) (b) (by omega) (ha1.q27) (hb) (by omega) (tbd tv_X10_see rfl) ?_
  refine G.if_eq 31 (tbd tv_X10_see rfl) (by decide) (fun c19 => absurd c19 (by rw [o27]; decide)) (fun c19 => ?_)
  refine G.go tv_X10_see 1 23 [(0, .ref (gAd E (25))), (1, .int (nI b))] [.ref (gAd E (25))] rfl ?_
  refine G.getf cls_X10 (25) 4 (by omega) (ha1.q25) (by decide) rfl (tbd tv_X10_see rfl) w_414 ?_
  refine G.go tv_X10_see 1 27 [(0, .ref (gAd E (25))), (1, .int (nI b))] [.int (nI b), .ref (gAd E (26))] rfl ?_
  refine G.aaldN (26) (b) (by omega) (ha1.q26) (hb) (by omega) (tbd tv_X10_see rfl) ?_
  refine G.eqs [.ref (gAd E (350 + N + (b)))] (by rw [rwA_at (hb)]; rfl) ?_
  refine G.go tv_X10_see 1 36 [(0, .ref (gAd E (25))), (1, .int (nI b))] [.ref (gAd E (350 + N + (b)))] rfl ?_
  exact G.aret rfl (⟨⟨_, rfl, by unfold vA vSee; rw [o1]; exact Or.inr ⟨rfl, 2, b, by decide, hb, rfl, o2, rfl⟩⟩, ha1, fa1⟩) (tbd tv_X10_see rfl)
theorem vp_nI {i : Int32} {n : Nat} (h : vp_in i n) : i.toNatClampNeg < n ∧ i = nI i.toNatClampNeg := by
  have h1 : ¬ i < 0 := fun q => h (Or.inl q)
  have h2 : ¬ n ≤ i.toNatClampNeg := fun q => h (Or.inr q)
  exact ⟨by omega, nI_cl h1⟩
theorem k_see (E : gE) (f : Nat → va_E) (N B gr : Nat) (C : CfT) (A : MS) (hz : CfZ E N B gr) (h : CfV E f N B gr C) (hA : AR N B gr A C) (i : Int32) (hi : vp_in i N) (y : Rw) (hy : vA A i.toNatClampNeg = y) : Ct E 2 yX10_see cX10_see 2 (some (.array .byte)) [.ref (gAd E (25)), .int i] f (fun v g => (∃ k, v = some (.ref (gAd E k)) ∧ ArK N B gr C k 128 y) ∧ CfV E g N B gr C ∧ Fr CfK f g, fun _ _ => False) := by
  obtain ⟨hb, e⟩ := vp_nI hi
  rw [e, ← hy]
  generalize i.toNatClampNeg = b at hb
  obtain ⟨o2, -, ⟨o27, o1⟩ | ⟨o27, o1⟩⟩ := hA.2.2.2.2.2.2.2.1 b hb
  · exact k_see0 E f N B gr C hz h A hA b hb o27 o1
  · exact k_see1 E f N B gr C hz h A hA b hb o27 o1 o2
def bfA (A : MS) (b : Nat) : Rw := befV A.1 A.2.1 A.2.2.2.1 b
theorem k_bef (E : gE) (f : Nat → va_E) (N B gr : Nat) (C : CfT) (A : MS) (hz : CfZ E N B gr) (h : CfV E f N B gr C) (hA : AR N B gr A C) (i : Int32) (hi : vp_in i N) (y : Rw) (hy : bfA A i.toNatClampNeg = y) : Ct E 1 yX10_before cX10_before 3 (some (.array .byte)) [.ref (gAd E (25)), .int i] f (fun v g => (∃ k, v = some (.ref (gAd E k)) ∧ ArK N B gr C k 128 y) ∧ CfV E g N B gr C ∧ Fr CfK f g, fun _ _ => False) := by
  obtain ⟨hb, e⟩ := vp_nI hi
  rw [e, ← hy]
  generalize i.toNatClampNeg = b at hb
  obtain ⟨en, hq⟩ := hA.2.2.2.2.1
  refine (r_beforeK E f N B gr C hz h A.1 1 hA.1 A.2.1 _ hA.2.2.1 hA.2.2.2.1 A.2.2.2.1 en hq hA.2.2.2.2.2.1 b hb).mono (fun v g q => ?_) (fun _ _ q => q)
  obtain ⟨k, q1, -, q2, q3, q4⟩ := q
  exact ⟨⟨k, q1, q2⟩, q3, q4⟩
/-- a row that is owned -/
def mdO (N : Nat) (A : MS) (i : Int32) : Option Rw := if i < 0 ∨ N ≤ i.toNatClampNeg then none else A.2.2.2.2.2.1 i.toNatClampNeg
theorem G.mdld {E : gE} {K : gM} {cc : ByteArray} {Q : gU} {f : Nat → va_E} {pc : Nat} {lv : List (Nat × Value)} {st : List Value} {N B gr : Nat} {C : CfT} {A : MS} {i : Int32} {y : Rw} (hz : CfZ E N B gr) (h : CfV E f N B gr C) (hA : AR N B gr A C) (hr : mdO N A i = some y) (d : decode cc pc = .ok (.aaload, 1)) (kk : ArK N B gr C (350 + N + i.toNatClampNeg) 128 y → G E K cc Q (pc + 1) lv (.ref (gAd E (350 + N + i.toNatClampNeg)) :: st) f) : G E K cc Q pc lv (.int i :: .ref (gAd E 26) :: st) f := by
  obtain ⟨z1, z2, z3, z4, z5, z6, z7⟩ := id hz
  unfold mdO at hr
  split at hr
  · cases hr
  · next hi =>
    obtain ⟨hb, e⟩ := vp_nI hi
    obtain ⟨o2, -, ⟨o27, o1⟩ | ⟨o27, o1⟩⟩ := hA.2.2.2.2.2.2.2.1 _ hb
    · rw [o1] at hr
      cases hr
    · rw [o1] at hr
      cases hr
      rw [show (Value.int i) = .int (nI i.toNatClampNeg) from congrArg _ e]
      refine G.aaldN 26 _ (by omega) h.q26 hb (by omega) d ?_
      rw [rwA_at hb]
      exact kk (Or.inr ⟨rfl, 2, _, by decide, hb, rfl, o2, rfl⟩)
