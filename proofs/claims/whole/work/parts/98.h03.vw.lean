/-- the class's own rows: ow, those that were taken as tables: tk -/
def VwR (N : Nat) (C : CfT) (ow : QC) (tk : Nat → Bool) : Prop := ∃ n, n ≤ N ∧ cS C 2508 = nI n ∧ (∀ i, i < n → ∃ b, b < N ∧ cA C 29 i = nI b ∧ cA C 27 b = 1) ∧ (∀ i j, i < n → j < n → cA C 29 i = cA C 29 j → i = j) ∧ ∀ b, b < N → Byt (cR C 2 b) ∧ ((cA C 27 b = 0 ∧ ow b = none ∧ cA C 28 b = 0 ∧ tk b = false) ∨ (cA C 27 b = 1 ∧ ow b = some (nr (cR C 2 b)) ∧ cA C 28 b = (if tk b then 1 else 0) ∧ ∃ i, i < n ∧ cA C 29 i = nI b))
def vSee (hw : Hw) (L : List En) (qs : List QC) (ow : QC) (b : Nat) : Rw := oSee (ow b) (befV hw L qs b)
def tb_X10_isBlock : List (Nat × Instr × Nat) := [(0, .iload_n 1, 1), (1, .ifCond .lt 16, 3), (4, .iload_n 1, 1), (5, .aload_n 0, 1), (6, .getfield 45, 3), (9, .arraylength, 1), (10, .if_icmp .ge 7, 3), (13, .iconst 1, 1), (14, .goto 4, 3), (17, .iconst 0, 1), (18, .ireturn, 1)]
theorem tv_X10_isBlock : Tv cX10_isBlock tb_X10_isBlock := by
  unfold Tv
  decide +kernel
set_option maxRecDepth 100000 in
set_option maxHeartbeats 4000000 in
theorem k_isBlock (E : gE) (f : Nat → va_E) (N B gr : Nat) (C : CfT) (hz : CfZ E N B gr) (h : CfV E f N B gr C) (b : Nat) (hb : b < N) : Ct E 1 yX10_isBlock cX10_isBlock 2 (some .boolean) [.ref (gAd E (25)), .int (nI b)] f (fun v g => v = some (.int 1) ∧ CfV E g N B gr (C) ∧ Fr CfK f g, fun _ _ => False) := by
  obtain ⟨z1, z2, z3, z4, z5, z6, z7⟩ := id hz
  refine Ct.of (by decide) (Nat.le_of_ble_eq_true rfl) (fun sz => ?_)
  refine G.eql [(0, .ref (gAd E (25))), (1, .int (nI b))] rfl ?_
  refine G.go tv_X10_isBlock 1 1 [(0, .ref (gAd E (25))), (1, .int (nI b))] [.int (nI b)] rfl ?_
  refine G.if_lt 17 (tbd tv_X10_isBlock rfl) (by decide) (fun c1 => absurd c1 (nI_nn (by omega))) (fun c1 => ?_)
  refine G.go tv_X10_isBlock 2 6 [(0, .ref (gAd E (25))), (1, .int (nI b))] [.ref (gAd E (25)), .int (nI b)] rfl ?_
  refine G.getf cls_X10 (25) 5 (by omega) (h.q25) (by decide) rfl (tbd tv_X10_isBlock rfl) w_415 ?_
  refine G.alen (27) 2 (by omega) (h.q27) rfl rfl (tbd tv_X10_isBlock rfl) ?_
  refine G.eqs [.int (nI (N)), .int (nI b)] rfl ?_
  refine G.cmp_ge 17 (tbd tv_X10_isBlock rfl) (by decide) (fun c10 => absurd c10 (nI_ge hb (by omega))) (fun c10 => ?_)
  refine G.go tv_X10_isBlock 2 18 [(0, .ref (gAd E (25))), (1, .int (nI b))] [.int ((1 : Int32))] rfl ?_
  exact G.iret rfl rfl (⟨rfl, h, Fr.rf⟩) (tbd tv_X10_isBlock rfl)
