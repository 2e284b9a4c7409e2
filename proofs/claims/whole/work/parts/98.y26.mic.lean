/-! ===== mount: both, behind their logs ===== -/
section PXX26
variable {N B gr u : Nat} {R R' : RfT} {hw : Hw} {L : List En} {tu : Int32} {A : MS} {D : CfT}
/-- the class behind its log -/
def aM (hw : Hw) (L : List En) (tu : Int32) : MS := (hw, L, tu, [], (fun _ => 0), (fun _ => none), (fun _ => false), false)
theorem m_ic (hN1 : 61 ≤ N) (hgr : 1 ≤ gr) (hgr2 : gr ≤ 16) (q : Quiet N hw) (ok : HOk N B hw) (h0 : hSee hw 0 = mH00 N) (r : Rec N (hSee hw) L tu) (wf : WF N (fun b => oSee (lVal L b) (hSee hw b))) (hs : hSp hw ≤ u) (hN : N ≤ 1024) (rm : RMw N B gr R (hw, L, tu, [], fun _ => 0)) (r36 : ∀ b, b < 1024 → rA R 36 b = -1) (r34 : rS R 34 = 0) (d8 : cS D 2508 = nI 0) (d42 : Byt (cA D 42)) : IC N B gr u (aM hw L tu) D R (hw, L, tu, [], fun _ => 0) (befM (hw, L, tu, [], fun _ => 0)) := by
  obtain ⟨r1, r2, r3, r4, r5⟩ := id r
  have eb : befM (hw, L, tu, [], fun _ => 0) = fun b => oSee (lVal L b) (hSee hw b) := rfl
  have wf' : WF N (befM (hw, L, tu, [], fun _ => 0)) := by
    rw [eb]
    exact wf
  have ej : ∀ j, j ≤ 0 → Wj (hw, L, tu, [], fun _ => 0) j = befM (hw, L, tu, [], fun _ => 0) := fun j hj => by
    have : j = 0 := by omega
    rw [this]
    exact Wj_all (m := (hw, L, tu, [], fun _ => 0))
  have ow : ∀ b, b < 1024 → wOw R b = none := fun b hb => if_pos (r36 b hb)
  have no : NoO (aM hw L tu) := ⟨fun _ => rfl, fun _ => rfl⟩
  refine ⟨⟨CX.clean rfl no d8 wf'.1.1 (fun _ _ _ => rfl) (fun _ _ _ => rfl), ⟨rm, fun b b1 b2 => ⟨?_, ?_⟩⟩, fun c hc z => absurd (ow c hc) z, wf'.1.1⟩, wf', ⟨⟨ok, fun k (hk : k < L.length) => ⟨q.free (by omega), r5 k hk, (r2 _ (lAt_m hk)).1⟩, r1, fun _ z => absurd z List.not_mem_nil, fun _ z => absurd z List.not_mem_nil⟩, ?_, ?_, hgr2, fun _ _ => ?_, fun _ _ => rfl, ⟨fun y hy => ?_, fun y hy => ?_, fun y hy k hk => ?_, fun j hj => ?_, fun j hj b b1 b2 _ => Or.inr (Or.inr (fun y hy => q.ps b2 hy))⟩, fun j hj b hb => Or.inl ?_, fun b _ => ?_⟩, r36, ⟨no, fun _ _ _ => rfl, fun _ => rfl, fun _ => ?_⟩, rfl, d42, r34⟩
  · rw [rSee_t, ow b (by omega)]
    exact rm.bef hN b2
  · exact decide_eq_false (fun z => z.1 (r36 b (by omega)))
  · show hSp hw + 100 * 0 ≤ u
    omega
  · show 0 < gr
    omega
  · show 0 < 3
    decide
  · rw [q.ps (by omega) hy]
    exact h0
  · rw [q.ps (by omega) hy]
    exact r3
  · rw [q.ps (by omega) hy]
    exact r4 k hk
  · rw [ej j hj]
    exact wf'
  · rw [ej j hj] at hb
    exact hb
  · show 0 ≠ 1
    decide
  · show 0 ≠ 2
    decide
theorem dM_a {k : Nat} (h1 : k ≠ 33) (h2 : k ≠ 34) : cA (dM D) k = cA D k := by
  show cA (sA (sA D 33 (flt (cA D 33) 0 65 0)) 34 (flt (cA D 34) 0 32 0)) k = cA D k
  rw [cA_n h2, cA_n h1]
theorem dM_s {j : Nat} (h : j ≠ 2508) : cS (dM D) j = cS D j := pk_un (f := D.1) h
theorem dM_33 {k : Nat} (h : k < 65) : cA (dM D) 33 k = 0 := by
  show cA (sA (sA D 33 (flt (cA D 33) 0 65 0)) 34 (flt (cA D 34) 0 32 0)) 33 k = 0
  rw [cA_n (by decide), cA_e]
  exact flt_at (Nat.zero_le _) h
theorem dM_34 {k : Nat} (h : k < 32) : cA (dM D) 34 k = 0 := by
  show cA (sA (sA D 33 (flt (cA D 33) 0 65 0)) 34 (flt (cA D 34) 0 32 0)) 34 k = 0
  rw [cA_e]
  exact flt_at (Nat.zero_le _) h
theorem OffT.dm {S T : List Nat} (h : OffT D R) (f : Fn S T R R') (h5 : 5 ∉ S) (h4 : 4 ∉ T) : OffT (dM D) R' := by
  obtain ⟨tp, tl, ⟨t1, t2, t3⟩, a2, a3, a4, a5, a6⟩ := h.fr f h5 h4
  refine ⟨tp, tl, ⟨t1, fun j => ?_, t3⟩, ?_, a3, a4, ?_, ?_⟩
  · rw [dM_a (by decide) (by decide)]
    exact t2 j
  · rw [dM_s (by decide)]
    exact a2
  · rw [dM_a (by decide) (by decide)]
    exact a5
  · rw [dM_a (by decide) (by decide)]
    exact a6
/-- from the core to all that is mounted -/
theorem IC.mtd {W : Nat → Rw} {m : M5} (hN1 : 61 ≤ N) (h : IC N B gr u A D R m W) (ho : OffT D R) (c33 : ∀ k, k < 65 → cA D 33 k = 0) (c34 : ∀ k, k < 32 → cA D 34 k = 0) (z52 : ∀ k, k < 65 → rA R 52 k = 0) (z53 : ∀ k, k < 32 → rA R 53 k = 0) (e21 : rS R 21 = 1) (hl : ∀ j, ir j → f1 W j 0 ≠ 0 → f1 W j 1 = 0 → (0 : Nat) ≠ 0) : Mtd N B gr u A (sS D 2 1) (setS R 0 0) := by
  obtain ⟨tp, tl, ⟨t1, t2, t3⟩, o2, o3, o4, o5, o6⟩ := ho
  have st := h.st hN1
  obtain ⟨a1, a2, a3, a4, a5, a6, a7, a8⟩ := h
  have f0 : Fn [0] [] R (setS R 0 0) := Fn.s (by decide)
  have d2 : cS (sS D 2 1) 2508 = cS D 2508 := rfl
  refine ⟨false, m, W, fun _ => false, fun _ => 0, fun _ => 0, tp, tl, ⟨⟨a1.1.dd d2 rfl, a1.2.fr f0 (by decide) (by decide)⟩, a2, a3, fun z => (by cases z), st, ⟨fun k hk => ⟨c33 k hk, z52 k hk, Nat.zero_le _⟩, fun k hk => ⟨c34 k hk, z53 k hk, Nat.zero_le _⟩, fun k _ z => absurd rfl z⟩, ⟨rfl, fun _ _ z => absurd rfl z, fun _ _ z => absurd rfl z⟩, ⟨⟨t1, t2, t3⟩, o2, o3, o4, ⟨pk_us (f := D.1) (k := 2), o6⟩, e21, a8, a1.2.1.1.wk.x.2.2.2⟩, a6, fun _ => a5, fun b hb => absurd (a5.1.1 b) hb, a7⟩, fun j hj h0 h1 => absurd rfl (hl j hj h0 h1)⟩
theorem an_on {v : Int32} (h : ¬ rS R 11 = 0) : e_answer R v = some (v, setS R 0 0) := by
  rw [e_answer, if_neg h, ptR, if_neg (show ¬ rS (setS R 0 0) 11 = 0 from h)]
theorem an_off {v : Int32} (h : rS R 11 = 0) : e_answer R v = some (0, setS R 0 2) := by
  rw [e_answer, if_pos h, ptR, if_pos (show rS (setS R 0 2) 11 = 0 from h)]
theorem Ret.offM {cl : Option (FR Int32)} {rf : Option (Int32 × RfT)} {u' : Nat} {A' : MS} {D' : CfT} {ex : Nat → Int32} (ho : OffT D R) (d : Dt D D') (x : Dead N u R A' D' R') (kc : KC N B gr R) (e1 : cl = some (.inr (0, A', D'))) (e2 : rf = some (0, setS R' 0 2)) (hu : u ≤ u') : Ret N B gr u' ex cl rf := Or.inr (Or.inl ⟨A', D', _, 0, e1, e2, rS_0, ho.dead d (Dd.thr x.1), ⟨R, Dd.thr x.1, kc⟩, x.2.up hu⟩)
/-- both mount -/
theorem m_ret {ex : Nat → Int32} (hN1 : 61 ≤ N) (hN : N ≤ 1024) (hgr : 1 ≤ gr) (hgr2 : gr ≤ 16) (hu : u + 5000 < 2 ^ 31) (h : Und N B gr u A D R) (ok : HOk N B A.1) (h0 : hSee A.1 0 = mH00 N) (r : Rec N (hSee A.1) L tu) (wf : WF N (fun b => oSee (lVal L b) (hSee A.1 b))) : Ret N B gr (u + 200) ex (d_X11_mount_68 N B gr (aM A.1 L tu) (dM D) (nI L.length)) (e_mount R) := by
  obtain ⟨ho, d2, rn, q, ⟨-, hs⟩, tj⟩ := h
  obtain ⟨R1, b1, b2, b3, b4⟩ := z_mnt0 hN hN1 rn q h0 r
  obtain ⟨R2, c1, c2, c3, c4, c5, c6, c7, c8⟩ := z_mntE hN rn b2 b3 b4
  have ho2 : OffT (dM D) R2 := ho.dm c4 (by decide) (by decide)
  have ic := m_ic (D := dM D) hN1 hgr hgr2 q ok h0 r wf hs hN c2 c3 c5 (pk_us (f := D.1) (k := 2508)) (by
    obtain ⟨tp, tl, -, -, -, -, a5, -⟩ := ho2
    exact a5)
  have kc := ic.1.2.kc
  rw [b1, c1, d_X11_mount_68]
  rcases ic.apl hN1 hN (by omega) with ⟨A4, R4, x1, x2, x3, x4⟩ | ⟨A4, R4, x1, x2, x3⟩
  · have on4 : ¬ rS R4 11 = 0 := x3.1.2.1.1.1.on
    have ho4 : OffT (dM D) R4 := ho2.dt Dt.rf x4 (by decide) (by decide)
    have kc4 := x3.1.2.kc
    have y52 : ∀ c, c < 65 → rA R4 52 c = 0 := fun c hc => by
      rw [x4.2.1 52 (by decide)]
      exact c7 c hc
    have y53 : ∀ c, c < 32 → rA R4 53 c = 0 := fun c hc => by
      rw [x4.2.1 53 (by decide)]
      exact c8 c hc
    rw [bndF_l x1, bnd_o x2, if_neg on4]
    rcases x3.lost (x1 := 1) (T := fun _ => 0) hN1 hN hgr hgr2 (by omega) (fun z => absurd z (by decide)) (fun _ _ _ => rfl) (fun i hi => held_0 y52 y53 hi) with ⟨A5, D5, R5, m5, W, e1, e2, e3, e4, e5, e6, -⟩ | ⟨A5, D5, R5, e1, e2, e3, e4⟩
    · have on5 : ¬ rS R5 11 = 0 := e3.1.2.1.1.1.on
      rw [bndF_l e1, bnd_o e2, bnd2_o (an_on on5), ptS]
      refine Or.inl ⟨_, _, _, _, rfl, rfl, rS_0, IC.mtd (u := u + 200) hN1 e3 (ho4.dt e4 e5 (by decide) (by decide)) (fun k hk => ?_) (fun k hk => ?_) (fun k hk => ?_) (fun k hk => ?_) ?_ e6⟩
      · rw [show cA D5 33 = cA (dM D) 33 from e4.2 33 (by decide)]
        exact dM_33 hk
      · rw [show cA D5 34 = cA (dM D) 34 from e4.2 34 (by decide)]
        exact dM_34 hk
      · rw [e5.2.1 52 (by decide)]
        exact y52 k hk
      · rw [e5.2.1 53 (by decide)]
        exact y53 k hk
      · rw [e5.1 21 (by decide), x4.1 21 (by decide)]
        exact c6
    · rw [bndF_r e1, bnd_o e2, bnd2_o (an_off e3.1.1.1)]
      exact Ret.offM (u := u + 200) ho4 e4 e3 kc4 rfl rfl (Nat.le_refl _)
  · rw [bndF_r x1, bnd_o x2, if_pos x3.1.1.1, bnd2_o (an_off x3.1.1.1)]
    exact Ret.offM (u := u + 100) ho2 Dt.rf x3 kc rfl rfl (by omega)
end PXX26
