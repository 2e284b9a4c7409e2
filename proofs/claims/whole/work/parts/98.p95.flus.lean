/-! ===== pure: flush ===== -/
section PXV
variable {N B gr r u : Nat} {V W : Nat → Rw} {m m' : M5} {tk : Nat → Bool} {A A' : MS} {D D' D2 : CfT} {R R' : RfT} {g : Bool} {hd hi : Nat → Nat} {tp : Nat → Int32} {tl : Nat} {ex : Nat → Int32} {i : Nat}
theorem RY.flush (hN1 : 61 ≤ N) (hN : N ≤ 1024) (h : RY N B gr R m V tk) (hm : MOk N B m) (hsp : hSp m.1 + 100 * m.2.2.2.1.length + 200 < 2 ^ 31) : ∃ v R', e_flushQueue R = some (v, R') ∧ (((flO2 N B m).1 = true ∧ v = nI m.2.2.2.1.length ∧ RY N B gr R' (flM N B m) V tk ∧ Fq [29, 47, 22, 25, 9, 10, 12, 13, 14, 18, 20] [35, 37, 46, 23, 24, 38, 44, 45, 6, 7, 8, 15, 17, 39, 40] R R') ∨ ((flO2 N B m).1 = false ∧ Dd N R (flO2 N B m).2.1 R')) := by
  obtain ⟨v, R1, e, o⟩ := RX.flush hN1 hN h.1 hm hsp
  refine ⟨v, R1, e, o.imp (fun ⟨o1, o2, o3, o4⟩ => ⟨o1, o2, ⟨o3, fun c hc hne => ?_, h.2.2⟩, o4⟩) id⟩
  rw [(wOw_fq o4 (by decide) (by decide) (by decide)).1] at hne
  exact h.2.1 c hc hne
/-- another model that says the same -/
theorem IM.mdl (hN1 : 61 ≤ N) (h : IM N B gr u g A D R m V tk hd hi tp tl) (ot : OwT A R m V) (hj : JX N B gr A' D R' m' V tk) (hbef : ∀ b, 43 ≤ b → b < N → befM m' b = befM m b) (h2 : ∀ b, m'.2.2.2.2 b = 2 ↔ m.2.2.2.2 b = 2) {u' : Nat} (hb : MB N B gr u' m') (eo : oA A' = oA A) (ek : kA A' = kA A) (eg : gA A' = gA A) {S T : List Nat} (f : Fq S T R R') (hS : ∀ j, j ∈ [5, 21, 34] → j ∉ S) (hT : ∀ k, k ∈ [4, 36, 48, 52, 53, 54, 55] → k ∉ T) : IM N B gr u' g A' D R' m' V tk hd hi tp tl := by
  obtain ⟨a1, a2, a3, a4, a5, a6, a7, a8, a9, a10⟩ := h
  have kp : Kep D D R R' := Kep.of Dt.rf f hS (fun k hk => hT k (by revert hk; revert k; decide))
  have hbw : WF N (befM m) := a3.2.2.2.2.2.2.1.bef
  have hok : ∀ b, OkP m V b → OkP m' V b := fun b hb => hb.imp id (fun z => z.imp id (fun z => (h2 b).mpr z))
  refine ⟨hj, a2, hb, fun _ => ⟨fun b hb => ?_, (ot.2.wk hok).fq f (hT 36 (by decide))⟩, ⟨fun b hb => ?_, fun b hb => ?_, fun _ h => h, Mr.rf⟩, kp.hr a6, a7, kp.fx a8 (by rw [f.2.1 48 (hT 48 (by decide))]; exact a8.2.2.2.2.2.2.2), eg.trans a9, fun z => ?_, fun b hb => a10.2.1 b (by rw [← eo]; exact hb), a10.2.2⟩
  · rw [eo] at hb
    exact hok b (ot.1 b hb)
  · exact (a5.1 b ((isT_dep hbw.1 hN1 hbef).mp hb)).imp id (fun z => (h2 b).mpr z)
  · exact (a5.2.1 b hb).imp id (fun z => ⟨(isT_dep hbw.1 hN1 hbef).mpr z.1, fun y => by cases y⟩)
  · obtain ⟨n1, n2, n3, n4⟩ := a10.1 z
    exact ⟨⟨fun b => by rw [eo]; exact n1.1 b, fun b => by rw [ek]; exact n1.2 b⟩, fun b b1 b2 => by rw [n2 b b1 b2, hbef b b1 b2], n3, fun b q => n4 b ((h2 b).mp q)⟩
theorem fl_2 {b : Nat} : (flM N B m).2.2.2.2 b = 2 ↔ m.2.2.2.2 b = 2 := by
  show (if m.2.2.2.2 b = 1 then 0 else m.2.2.2.2 b) = 2 ↔ _
  by_cases c : m.2.2.2.2 b = 1
  · rw [if_pos c, c]
    exact ⟨fun z => absurd z (by decide), fun z => absurd z (by decide)⟩
  · rw [if_neg c]
theorem MB.fl (hN1 : 61 ≤ N) (h : MB N B gr u m) (hgr : 1 ≤ gr) (ht : (flO2 N B m).1 = true) : MB N B gr u (flM N B m) := by
  have mr : Mr N B m (flM N B m) := (Flr.rf.fl ht).mr
  obtain ⟨b1, b2, b3, b4, b5, b6, b7, b8⟩ := h
  refine ⟨flM_ok hN1 b1 ht, Nat.le_trans (mr.phi hN1 b1) b2, hgr, b4, fun b hb => ?_, fun b hb => ?_, mr.gm hN1 b1 b7, mr.1.gj b8⟩
  · show (if m.2.2.2.2 b = 1 then 0 else m.2.2.2.2 b) < 3
    split
    · decide
    · exact b5 b hb
  · show (if m.2.2.2.2 b = 1 then 0 else m.2.2.2.2 b) = 0
    rw [b6 b hb]
    rfl
theorem ans_on {v : Int32} (h : ¬ rS R 11 = 0) : e_answer R v = some (v, setS R 0 0) := by
  rw [e_answer, if_neg h, ptR, if_neg (show ¬ rS (setS R 0 0) 11 = 0 from h)]
theorem ans_off {v : Int32} (h : rS R 11 = 0) : e_answer R v = some (0, setS R 0 2) := by
  rw [e_answer, if_pos h, ptR, if_pos (show rS (setS R 0 2) 11 = 0 from h)]
/-- both flush -/
theorem IM.flush (hN1 : 61 ≤ N) (hN : N ≤ 1024) (hgr : 1 ≤ gr) (hu : u + 4200 < 2 ^ 31) (h : IM N B gr u g A D R m V tk hd hi tp tl) (ot : OwT A R m V) : (∃ A' R', fFl N B gr A D = some (.inl (nI m.2.2.2.1.length, A', D)) ∧ e_flushQueue R = some (nI m.2.2.2.1.length, R') ∧ IM N B gr u g A' D R' (flM N B m) V tk hd hi tp tl ∧ OwT A' R' (flM N B m) V ∧ ¬ rS R' 11 = 0 ∧ (flO2 N B m).1 = true) ∨ ∃ v A' R', fFl N B gr A D = some (.inr (0, A', D)) ∧ e_flushQueue R = some (v, R') ∧ Dd N R A'.1 R' ∧ FlT N B m A' D := by
  have mb := h.2.2.1
  have hph := mb.2.1
  have hl := mb.2.2.1
  have hl2 := mb.2.2.2.1
  unfold Phi at hph
  obtain ⟨v, R1, e, o⟩ := h.1.2.flush hN1 hN mb.1 (by omega)
  have em : mA A = m := h.1.1.1
  have hsp : hSp A.1 + 100 * A.2.2.2.1.length + 200 < 2 ^ 31 := by
    have e1 : A.1 = m.1 := by rw [← em]; rfl
    have e2 : A.2.2.2.1 = m.2.2.2.1 := by rw [← em]; rfl
    rw [e1, e2]
    omega
  have el : A.2.2.2.1.length = m.2.2.2.1.length := by rw [← em]; rfl
  rcases c_fFl (N := N) (B := B) (gr := gr) (D := D) hsp with ⟨t1, A1, f1, f2, f3, f4, f5⟩ | ⟨t1, f1⟩
  · rw [em] at t1
    rcases o with ⟨-, o2, o3, o4⟩ | ⟨q, -⟩
    · rw [el] at f1
      have hM := h.mdl hN1 ot ⟨h.1.1.flush hN1 mb.1 t1 f2 f3 f4, o3⟩ (fun b b1 b2 => flM_bef hN1 mb.1 t1 b1 b2) (fun b => fl_2) (mb.fl hN1 hgr t1) f3 f4 f5 o4 (by decide) (by decide)
      refine Or.inl ⟨A1, R1, f1, by rw [e, o2], hM, ⟨fun b hb => ?_, ?_⟩, o3.1.1.1.on, t1⟩
      · rw [f3] at hb
        exact (ot.1 b hb).imp id (fun z => z.imp id (fun z => fl_2.mpr z))
      · exact (ot.2.wk (fun b hb => hb.imp id (fun z => z.imp id (fun z => fl_2.mpr z)))).fq o4 (by decide)
    · rw [t1] at q
      cases q
  · rw [em] at t1 f1
    rcases o with ⟨q, -⟩ | ⟨-, q⟩
    · rw [t1] at q
      cases q
    · exact Or.inr ⟨v, _, R1, f1, e, q, ⟨m, Flr.rf, t1, rfl⟩, h.1.1.tj⟩
theorem r_flush (hN1 : 61 ≤ N) (hN : N ≤ 1024) (hgr : 1 ≤ gr) (hu : u + 4200 < 2 ^ 31) (h : IM N B gr u g A D R m V tk hd hi tp tl) (hL : LH V hd hi := by assumption) : Ret N B gr (u + 100) ex (d_X11_flush N B gr A D) (e_flush R) := by
  obtain ⟨n1, R1, n2, h1, ot, t0, -, -⟩ := h.nm hN
  rw [d_X11_flush, bndF_l n1, e_flush, bnd2_o n2, i00]
  rcases h1.flush hN1 hN hgr hu ot with ⟨A', R', a1, a2, a3, a4, a5, -⟩ | ⟨v, A', R', a1, a2, a3, a4⟩
  · rw [bndF_l a1, bnd2_o a2, bnd2_o (ans_on a5)]
    exact Ret.ok a3.thr (by omega) rS_0 rfl rfl
  · rw [bndF_r a1, bnd2_o a2, bnd2_o (ans_off a3.1.1)]
    exact Ret.off hN1 h1 Dt.rf a3 a4 rfl rfl
end PXV
