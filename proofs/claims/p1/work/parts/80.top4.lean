/-- the rows that format writes -/
def cBt (N : Nat) (g : Nat → Int32) : Nat → Nat → Int32
  | 0 => g
  | k + 1 => if k < 61 ∨ N ≤ k then upd (cBt N g k) (k / 8) (vp_nar .byte ((((cBt N g k) (k / 8)) ||| (((1 : Int32)) <<< ((nI (k % 8)) &&& 31) : Int32).toInt8.toInt32 : Int32).toInt8.toInt32)) else cBt N g k
theorem cBt_y {N k : Nat} {g : Nat → Int32} (h : k < 61 ∨ N ≤ k) : cBt N g (k + 1) = upd (cBt N g k) (k / 8) (vp_nar .byte ((((cBt N g k) (k / 8)) ||| (((1 : Int32)) <<< ((nI (k % 8)) &&& 31) : Int32).toInt8.toInt32 : Int32).toInt8.toInt32)) := (show cBt N g (k + 1) = (if k < 61 ∨ N ≤ k then upd (cBt N g k) (k / 8) (vp_nar .byte ((((cBt N g k) (k / 8)) ||| (((1 : Int32)) <<< ((nI (k % 8)) &&& 31) : Int32).toInt8.toInt32 : Int32).toInt8.toInt32)) else cBt N g k) from rfl).trans (if_pos h)
theorem cBt_n {N k : Nat} {g : Nat → Int32} (h : ¬ (k < 61 ∨ N ≤ k)) : cBt N g (k + 1) = cBt N g k := (show cBt N g (k + 1) = (if k < 61 ∨ N ≤ k then upd (cBt N g k) (k / 8) (vp_nar .byte ((((cBt N g k) (k / 8)) ||| (((1 : Int32)) <<< ((nI (k % 8)) &&& 31) : Int32).toInt8.toInt32 : Int32).toInt8.toInt32)) else cBt N g k) from rfl).trans (if_neg h)
theorem cBt_b {N : Nat} {g : Nat → Int32} (h : Byt g) : ∀ k, Byt (cBt N g k)
  | 0 => h
  | k + 1 => by
    unfold cBt
    split
    · exact (cBt_b h k).upd8
    · exact cBt_b h k
def fRow (N t : Nat) (sc : Nat → Int32) : Nat → Int32 := if t = 43 then cBt N (flt sc 0 128 0) 1024 else if t = 44 then upd (flt sc 0 128 0) 0 (vp_nar .byte (1 : Int32)) else if t = 45 then upd (upd (flt sc 0 128 0) 0 (vp_nar .byte (2 : Int32))) 1 (vp_nar .byte (1 : Int32)) else flt sc 0 128 0
theorem fRow_b {N t : Nat} {sc : Nat → Int32} (h : Byt sc) : Byt (fRow N t sc) := by
  have hz : Byt (flt sc 0 128 0) := Byt_flt h rfl
  unfold fRow
  split
  · exact cBt_b hz _
  · split
    · exact hz.upd8
    · split
      · exact hz.upd8.upd8
      · exact hz
def hRow (N : Nat) (sc : Nat → Int32) : Nat → Int32 := upd (upd (s_two (s_four (flt sc 0 128 0) 0 1414874188) 4 (nI N)) 6 (vp_nar .byte (40 : Int32))) 7 (vp_nar .byte (64 : Int32))
theorem hRow_b {N : Nat} {sc : Nat → Int32} (h : Byt sc) : Byt (hRow N sc) := (((Byt_flt h rfl).s_four).s_two).upd8.upd8
def ScK (k : Nat) : Prop := k = 31
def tb_X11_formatRow : List (Nat × Instr × Nat) := [(0, .aload_n 2, 1), (1, .iconst 0, 1), (2, .invokestatic 162, 3), (5, .iload_n 1, 1), (6, .bipush 43, 2), (8, .if_icmp .ne 55, 3), (11, .iconst 0, 1), (12, .istore_n 3, 1), (13, .iload_n 3, 1), (14, .sipush 1024, 3), (17, .if_icmp .ge 43, 3), (20, .iload_n 3, 1), (21, .bipush 61, 2), (23, .if_icmp .lt 14, 3), (26, .iload_n 3, 1), (27, .aload_n 0, 1), (28, .getfield 47, 3), (31, .getfield 71, 3), (34, .if_icmp .lt 20, 3), (37, .aload_n 2, 1), (38, .iload_n 3, 1), (39, .bipush 8, 2), (41, .idiv, 1), (42, .dup2, 1), (43, .baload, 1), (44, .iconst 1, 1), (45, .iload_n 3, 1), (46, .bipush 8, 2), (48, .irem, 1), (49, .ishl, 1), (50, .i2b, 1), (51, .ior, 1), (52, .i2b, 1), (53, .bastore, 1), (54, .iinc 3 1, 3), (57, .goto (-44), 3), (60, .goto 30, 3), (63, .iload_n 1, 1), (64, .bipush 44, 2), (66, .if_icmp .ne 10, 3), (69, .aload_n 2, 1), (70, .iconst 0, 1), (71, .iconst 1, 1), (72, .bastore, 1), (73, .goto 17, 3), (76, .iload_n 1, 1), (77, .bipush 45, 2), (79, .if_icmp .ne 11, 3), (82, .aload_n 2, 1), (83, .iconst 0, 1), (84, .iconst 2, 1), (85, .bastore, 1), (86, .aload_n 2, 1), (87, .iconst 1, 1), (88, .iconst 1, 1), (89, .bastore, 1), (90, .return_, 1)]
theorem tv_X11_formatRow : Tv cX11_formatRow tb_X11_formatRow := by
  unfold Tv
  decide +kernel
set_option maxRecDepth 100000 in
set_option maxHeartbeats 4000000 in
theorem fr_b (E : gE) (f0 : Nat → va_E) (sz : Nat) (A : Nat → Prop) (Q : gQ) (tp : Nat → Int32) (fd : Nat) (mo : Int32) (hE : 350 ≤ gN E) (N : Nat) (d : DkT) (on le wr ss : Int32) (hN : N ≤ 1024) (m0 : f0 0 = .inr (11, [.ref (gAd E (1)), .int (nI fd), .int (mo), .ref (gAd E (2)), .ref (gAd E (8)), .ref (gAd E (13)), .ref (gAd E (17)), .ref (gAd E (25)), .ref (gAd E (37)), .ref (gAd E (32)), .ref (gAd E (40)), .ref (gAd E (41)), .ref (gAd E (44)), .ref (gAd E (47)), .ref (gAd E (50)), .ref (gAd E (53)), .ref (gAd E (54)), .ref (gAd E (55))])) (hdv2 : f0 2 = .inr (2, [.int (nI N), .ref (gAd E (3)), .ref (gAd E (4)), .ref (gAd E (5)), .ref (gAd E (6)), .ref (gAd E (7)), .int (nI d.2.2.2.2.2.1), .int (nI d.2.2.2.2.2.2), .int (on), .int (le), .int (wr), .int (ss)])) (g : Nat → Int32) (kq : ∀ u, u 31 = oB (gDA E) 128 (cBt N g 1024) → Fr ScK f0 u → G E (2, yX11_formatRow, 4, none, sz, A) cX11_formatRow (gO E (2, yX11_formatRow, 4, none, sz, A) Q) 60 [(0, .ref (gAd E (0))), (1, .int (nI 43)), (2, .ref (gAd E (31))), (3, .int (nI (1024)))] [] u) : ∀ (z j : Nat), j + z = 1024 → ∀ f, f 31 = oB (gDA E) 128 (cBt N g j) → Fr ScK f0 f → G E (2, yX11_formatRow, 4, none, sz, A) cX11_formatRow (gO E (2, yX11_formatRow, 4, none, sz, A) Q) 13 [(0, .ref (gAd E (0))), (1, .int (nI 43)), (2, .ref (gAd E (31))), (3, .int (nI (j)))] [] f := by
  intro z
  induction z with
  | zero =>
    intro j e f hs hf
    have e : j = 1024 := e
    refine G.go tv_X11_formatRow 2 17 [(0, .ref (gAd E (0))), (1, .int (nI 43)), (2, .ref (gAd E (31))), (3, .int (nI (j)))] [.int ((1024 : Int32)), .int (nI (j))] rfl ?_
    refine G.cmp_ge 60 (tbd tv_X11_formatRow rfl) (by decide) (fun c17 => ?_) (fun c17 => absurd (by rw [e]; exact (nI_le (Nat.le_refl _) (by omega) : nI 1024 ≤ nI 1024)) c17)
    refine G.eql [(0, .ref (gAd E (0))), (1, .int (nI 43)), (2, .ref (gAd E (31))), (3, .int (nI (1024)))] (by rw [e]) ?_
    exact kq _ (e ▸ hs) hf
  | succ z ih =>
    intro j e f hs hf
    refine G.go tv_X11_formatRow 2 17 [(0, .ref (gAd E (0))), (1, .int (nI 43)), (2, .ref (gAd E (31))), (3, .int (nI (j)))] [.int ((1024 : Int32)), .int (nI (j))] rfl ?_
    refine G.cmp_ge 60 (tbd tv_X11_formatRow rfl) (by decide) (fun c17 => absurd c17 ((nI_ge (by omega) (by omega) : ¬ nI 1024 ≤ nI j))) (fun c17 => ?_)
    refine G.go tv_X11_formatRow 2 23 [(0, .ref (gAd E (0))), (1, .int (nI 43)), (2, .ref (gAd E (31))), (3, .int (nI (j)))] [.int ((61 : Int32)), .int (nI (j))] rfl ?_
    refine G.cmp_lt 37 (tbd tv_X11_formatRow rfl) (by decide) (fun c23 => ?_) (fun c23 => ?_)
    · skip
      have hk : j < 61 ∨ N ≤ j := Or.inl ((nI_ltI (by omega) (by omega) : nI j < nI 61 ↔ j < 61).mp c23)
      refine G.go tv_X11_formatRow 3 41 [(0, .ref (gAd E (0))), (1, .int (nI 43)), (2, .ref (gAd E (31))), (3, .int (nI (j)))] [.int ((8 : Int32)), .int (nI (j)), .ref (gAd E (31))] rfl ?_
      refine G.idiv (by decide) (tbd tv_X11_formatRow rfl) ?_
      refine G.eqs [.int (nI (j / 8)), .ref (gAd E (31))] (by rw [show (8 : Int32) = nI 8 from rfl, pk_div (by omega) (by omega) (by omega)]) ?_
      refine G.go tv_X11_formatRow 1 43 [(0, .ref (gAd E (0))), (1, .int (nI 43)), (2, .ref (gAd E (31))), (3, .int (nI (j)))] [.int (nI (j / 8)), .ref (gAd E (31)), .int (nI (j / 8)), .ref (gAd E (31))] rfl ?_
      refine G.baldN (31) (j / 8) (by omega) (hs) (by omega) (by decide) (tbd tv_X11_formatRow rfl) ?_
      refine G.go tv_X11_formatRow 3 48 [(0, .ref (gAd E (0))), (1, .int (nI 43)), (2, .ref (gAd E (31))), (3, .int (nI (j)))] [.int ((8 : Int32)), .int (nI (j)), .int ((1 : Int32)), .int ((cBt N g j) (j / 8)), .int (nI (j / 8)), .ref (gAd E (31))] rfl ?_
      refine G.irem (by decide) (tbd tv_X11_formatRow rfl) ?_
      refine G.eqs [.int (nI (j % 8)), .int ((1 : Int32)), .int ((cBt N g j) (j / 8)), .int (nI (j / 8)), .ref (gAd E (31))] (by rw [show (8 : Int32) = nI 8 from rfl, pk_rem (by omega) (by omega) (by omega)]) ?_
      refine G.go tv_X11_formatRow 4 53 [(0, .ref (gAd E (0))), (1, .int (nI 43)), (2, .ref (gAd E (31))), (3, .int (nI (j)))] [.int ((((cBt N g j) (j / 8)) ||| ((((1 : Int32)) <<< ((nI (j % 8)) &&& 31) : Int32).toInt8.toInt32) : Int32).toInt8.toInt32), .int (nI (j / 8)), .ref (gAd E (31))] rfl ?_
      refine G.bastN (31) (j / 8) (by omega) (hs) (by omega) (by decide) (tbd tv_X11_formatRow rfl) ?_
      refine G.go tv_X11_formatRow 2 13 [(0, .ref (gAd E (0))), (1, .int (nI 43)), (2, .ref (gAd E (31))), (3, .int (nI (j) + (1 : Int32)))] [] rfl ?_
      refine G.eql [(0, .ref (gAd E (0))), (1, .int (nI 43)), (2, .ref (gAd E (31))), (3, .int (nI (j + 1)))] (by rw [nI_1]) ?_
      exact ih (j + 1) (by omega) _ (by rw [cBt_y hk]; exact up_e) (Fr.up (hf) rfl)
    · skip
      refine G.go tv_X11_formatRow 2 28 [(0, .ref (gAd E (0))), (1, .int (nI 43)), (2, .ref (gAd E (31))), (3, .int (nI (j)))] [.ref (gAd E (0)), .int (nI (j))] rfl ?_
      refine G.getf cls_X11 (0) 3 (by omega) ((hf 0 (by show ¬ _ = _; decide)).trans m0) (by decide) rfl (tbd tv_X11_formatRow rfl) w_566 ?_
      refine G.getf cls_X2 (2) 0 (by omega) ((hf 2 (by show ¬ _ = _; decide)).trans hdv2) (by decide) rfl (tbd tv_X11_formatRow rfl) w_229 ?_
      refine G.cmp_lt 54 (tbd tv_X11_formatRow rfl) (by decide) (fun c34 => ?_) (fun c34 => ?_)
      · skip
        have hk : ¬ (j < 61 ∨ N ≤ j) := by have a := (nI_ltI (by omega) (by omega)).mp c34; have b : ¬ j < 61 := fun q => c23 (nI_lt q (by omega) : nI j < nI 61); omega
        refine G.go tv_X11_formatRow 2 13 [(0, .ref (gAd E (0))), (1, .int (nI 43)), (2, .ref (gAd E (31))), (3, .int (nI (j) + (1 : Int32)))] [] rfl ?_
        refine G.eql [(0, .ref (gAd E (0))), (1, .int (nI 43)), (2, .ref (gAd E (31))), (3, .int (nI (j + 1)))] (by rw [nI_1]) ?_
        exact ih (j + 1) (by omega) _ (by rw [cBt_n hk]; exact hs) (hf)
      · skip
        have hk : j < 61 ∨ N ≤ j := Or.inr (Nat.not_lt.mp (fun q => c34 (nI_lt q (by omega))))
        refine G.go tv_X11_formatRow 3 41 [(0, .ref (gAd E (0))), (1, .int (nI 43)), (2, .ref (gAd E (31))), (3, .int (nI (j)))] [.int ((8 : Int32)), .int (nI (j)), .ref (gAd E (31))] rfl ?_
        refine G.idiv (by decide) (tbd tv_X11_formatRow rfl) ?_
        refine G.eqs [.int (nI (j / 8)), .ref (gAd E (31))] (by rw [show (8 : Int32) = nI 8 from rfl, pk_div (by omega) (by omega) (by omega)]) ?_
        refine G.go tv_X11_formatRow 1 43 [(0, .ref (gAd E (0))), (1, .int (nI 43)), (2, .ref (gAd E (31))), (3, .int (nI (j)))] [.int (nI (j / 8)), .ref (gAd E (31)), .int (nI (j / 8)), .ref (gAd E (31))] rfl ?_
        refine G.baldN (31) (j / 8) (by omega) (hs) (by omega) (by decide) (tbd tv_X11_formatRow rfl) ?_
        refine G.go tv_X11_formatRow 3 48 [(0, .ref (gAd E (0))), (1, .int (nI 43)), (2, .ref (gAd E (31))), (3, .int (nI (j)))] [.int ((8 : Int32)), .int (nI (j)), .int ((1 : Int32)), .int ((cBt N g j) (j / 8)), .int (nI (j / 8)), .ref (gAd E (31))] rfl ?_
        refine G.irem (by decide) (tbd tv_X11_formatRow rfl) ?_
        refine G.eqs [.int (nI (j % 8)), .int ((1 : Int32)), .int ((cBt N g j) (j / 8)), .int (nI (j / 8)), .ref (gAd E (31))] (by rw [show (8 : Int32) = nI 8 from rfl, pk_rem (by omega) (by omega) (by omega)]) ?_
        refine G.go tv_X11_formatRow 4 53 [(0, .ref (gAd E (0))), (1, .int (nI 43)), (2, .ref (gAd E (31))), (3, .int (nI (j)))] [.int ((((cBt N g j) (j / 8)) ||| ((((1 : Int32)) <<< ((nI (j % 8)) &&& 31) : Int32).toInt8.toInt32) : Int32).toInt8.toInt32), .int (nI (j / 8)), .ref (gAd E (31))] rfl ?_
        refine G.bastN (31) (j / 8) (by omega) (hs) (by omega) (by decide) (tbd tv_X11_formatRow rfl) ?_
        refine G.go tv_X11_formatRow 2 13 [(0, .ref (gAd E (0))), (1, .int (nI 43)), (2, .ref (gAd E (31))), (3, .int (nI (j) + (1 : Int32)))] [] rfl ?_
        refine G.eql [(0, .ref (gAd E (0))), (1, .int (nI 43)), (2, .ref (gAd E (31))), (3, .int (nI (j + 1)))] (by rw [nI_1]) ?_
        exact ih (j + 1) (by omega) _ (by rw [cBt_y hk]; exact up_e) (Fr.up (hf) rfl)
theorem w_714 : Cond.methodLink "LedgerFiles" 162 yJ7_fill_031fb ∈ TB := tp_3 88 (by decide +kernel) rfl
theorem cw_X11_162 : Cw RX11 162 yJ7_fill_031fb cJ7_fill_031fb 4 none 2 := ⟨w_714, w_716, w_151, by decide +kernel, by decide +kernel, by decide⟩
set_option maxRecDepth 100000 in
set_option maxHeartbeats 4000000 in
theorem c_X11_formatRow (E : gE) (f : Nat → va_E) (tp : Nat → Int32) (fd : Nat) (mo : Int32) (hE : 350 ≤ gN E) (N : Nat) (d : DkT) (on le wr ss : Int32) (hN : N ≤ 1024) (m0 : f 0 = .inr (11, [.ref (gAd E (1)), .int (nI fd), .int (mo), .ref (gAd E (2)), .ref (gAd E (8)), .ref (gAd E (13)), .ref (gAd E (17)), .ref (gAd E (25)), .ref (gAd E (37)), .ref (gAd E (32)), .ref (gAd E (40)), .ref (gAd E (41)), .ref (gAd E (44)), .ref (gAd E (47)), .ref (gAd E (50)), .ref (gAd E (53)), .ref (gAd E (54)), .ref (gAd E (55))])) (hdv2 : f 2 = .inr (2, [.int (nI N), .ref (gAd E (3)), .ref (gAd E (4)), .ref (gAd E (5)), .ref (gAd E (6)), .ref (gAd E (7)), .int (nI d.2.2.2.2.2.1), .int (nI d.2.2.2.2.2.2), .int (on), .int (le), .int (wr), .int (ss)])) (sc : Nat → Int32) (hs : f 31 = oB (gDA E) 128 sc) (t : Nat) (ht : t < 1024) : Ct E 2 yX11_formatRow cX11_formatRow 4 none [.ref (gAd E (0)), .int (nI t), .ref (gAd E (31))] f (fun v g => v = none ∧ g 31 = oB (gDA E) 128 (fRow N t sc) ∧ Fr ScK f g, fun _ _ => False) := by
  refine Ct.of (by decide) (Nat.le_of_ble_eq_true rfl) (fun sz => ?_)
  refine G.eql [(0, .ref (gAd E (0))), (1, .int (nI t)), (2, .ref (gAd E (31)))] rfl ?_
  refine G.go tv_X11_formatRow 2 2 [(0, .ref (gAd E (0))), (1, .int (nI t)), (2, .ref (gAd E (31)))] [.int ((0 : Int32)), .ref (gAd E (31))] rfl ?_
  refine G.callS [.ref (gAd E (31)), .int ((0 : Int32))] [] (c_J7_fill_031fb E _ 31 (128) (sc) ((0 : Int32)) (by omega) (hs) (by omega)) cw_X11_162 w_715 (Nat.le_of_ble_eq_true rfl) rfl (Nat.le_of_ble_eq_true rfl) (tbd tv_X11_formatRow rfl) (fun v1 f1 q1 => ?_) (fun _ _ h => h.elim)
  obtain ⟨rfl, rfl⟩ := q1
  refine G.eqs [] rfl ?_
  refine G.go tv_X11_formatRow 2 8 [(0, .ref (gAd E (0))), (1, .int (nI t)), (2, .ref (gAd E (31)))] [.int ((43 : Int32)), .int (nI t)] rfl ?_
  refine G.cmp_ne 63 (tbd tv_X11_formatRow rfl) (by decide) (fun c8 => ?_) (fun c8 => ?_)
  · skip
    refine G.go tv_X11_formatRow 2 66 [(0, .ref (gAd E (0))), (1, .int (nI t)), (2, .ref (gAd E (31)))] [.int ((44 : Int32)), .int (nI t)] rfl ?_
    refine G.cmp_ne 76 (tbd tv_X11_formatRow rfl) (by decide) (fun c66 => ?_) (fun c66 => ?_)
    · skip
      refine G.go tv_X11_formatRow 2 79 [(0, .ref (gAd E (0))), (1, .int (nI t)), (2, .ref (gAd E (31)))] [.int ((45 : Int32)), .int (nI t)] rfl ?_
      refine G.cmp_ne 90 (tbd tv_X11_formatRow rfl) (by decide) (fun c79 => ?_) (fun c79 => ?_)
      · skip
        refine G.vret rfl ⟨rfl, ?_, Fr.up (Fr.rf) rfl⟩ (tbd tv_X11_formatRow rfl)
        unfold fRow
        have n43 : ¬ t = 43 := fun q => c8 (by rw [q]; rfl)
        rw [if_neg n43]
        rw [if_neg (fun q => c66 (by rw [q]; rfl) : ¬ t = 44)]
        rw [if_neg (fun q => c79 (by rw [q]; rfl) : ¬ t = 45)]
        exact up_e
      · skip
        refine G.go tv_X11_formatRow 3 85 [(0, .ref (gAd E (0))), (1, .int (nI t)), (2, .ref (gAd E (31)))] [.int ((2 : Int32)), .int ((0 : Int32)), .ref (gAd E (31))] rfl ?_
        refine G.eqs [.int ((2 : Int32)), .int (nI 0), .ref (gAd E (31))] (rfl) ?_
        refine G.bastN (31) (0) (by omega) (up_e) (by decide) (by decide) (tbd tv_X11_formatRow rfl) ?_
        refine G.go tv_X11_formatRow 3 89 [(0, .ref (gAd E (0))), (1, .int (nI t)), (2, .ref (gAd E (31)))] [.int ((1 : Int32)), .int ((1 : Int32)), .ref (gAd E (31))] rfl ?_
        refine G.eqs [.int ((1 : Int32)), .int (nI 1), .ref (gAd E (31))] (rfl) ?_
        refine G.bastN (31) (1) (by omega) (up_e) (by decide) (by decide) (tbd tv_X11_formatRow rfl) ?_
        refine G.vret rfl ⟨rfl, ?_, Fr.up (Fr.up (Fr.up (Fr.rf) rfl) rfl) rfl⟩ (tbd tv_X11_formatRow rfl)
        unfold fRow
        have n43 : ¬ t = 43 := fun q => c8 (by rw [q]; rfl)
        rw [if_neg n43]
        rw [if_neg (fun q => c66 (by rw [q]; rfl) : ¬ t = 44)]
        rw [if_pos ((nI_eq (by omega) (by decide) : nI t = nI 45 ↔ t = 45).mp c79)]
        exact up_e
    · skip
      refine G.go tv_X11_formatRow 3 72 [(0, .ref (gAd E (0))), (1, .int (nI t)), (2, .ref (gAd E (31)))] [.int ((1 : Int32)), .int ((0 : Int32)), .ref (gAd E (31))] rfl ?_
      refine G.eqs [.int ((1 : Int32)), .int (nI 0), .ref (gAd E (31))] (rfl) ?_
      refine G.bastN (31) (0) (by omega) (up_e) (by decide) (by decide) (tbd tv_X11_formatRow rfl) ?_
      refine G.go tv_X11_formatRow 1 90 [(0, .ref (gAd E (0))), (1, .int (nI t)), (2, .ref (gAd E (31)))] [] rfl ?_
      refine G.vret rfl ⟨rfl, ?_, Fr.up (Fr.up (Fr.rf) rfl) rfl⟩ (tbd tv_X11_formatRow rfl)
      unfold fRow
      have n43 : ¬ t = 43 := fun q => c8 (by rw [q]; rfl)
      rw [if_neg n43]
      rw [if_pos ((nI_eq (by omega) (by decide) : nI t = nI 44 ↔ t = 44).mp c66)]
      exact up_e
  · skip
    refine G.go tv_X11_formatRow 2 13 [(0, .ref (gAd E (0))), (1, .int (nI t)), (2, .ref (gAd E (31))), (3, .int ((0 : Int32)))] [] rfl ?_
    have c8 : nI t = nI 43 := c8
    have et : t = 43 := (nI_eq (by omega) (by omega)).mp c8
    refine G.eql [(0, .ref (gAd E (0))), (1, .int (nI 43)), (2, .ref (gAd E (31))), (3, .int (nI (0)))] (by rw [c8]; rfl) ?_
    refine fr_b E f sz _ _ tp fd mo hE N d on le wr ss hN m0 hdv2 (flt sc 0 128 0) ?_ 1024 0 (by omega) _ (up_e) (Fr.up (Fr.rf) rfl)
    intro u hu fu
    refine G.go tv_X11_formatRow 1 90 [(0, .ref (gAd E (0))), (1, .int (nI 43)), (2, .ref (gAd E (31))), (3, .int (nI (1024)))] [] rfl ?_
    refine G.vret rfl ⟨rfl, ?_, fu⟩ (tbd tv_X11_formatRow rfl)
    unfold fRow
    rw [if_pos et]
    exact hu
def tb_X11_headRow : List (Nat × Instr × Nat) := [(0, .aload_n 1, 1), (1, .iconst 0, 1), (2, .invokestatic 162, 3), (5, .aload_n 1, 1), (6, .iconst 0, 1), (7, .ldc 185, 2), (9, .invokestatic 186, 3), (12, .aload_n 1, 1), (13, .iconst 4, 1), (14, .aload_n 0, 1), (15, .getfield 47, 3), (18, .getfield 71, 3), (21, .invokestatic 190, 3), (24, .aload_n 1, 1), (25, .bipush 6, 2), (27, .bipush 40, 2), (29, .bastore, 1), (30, .aload_n 1, 1), (31, .bipush 7, 2), (33, .bipush 64, 2), (35, .bastore, 1), (36, .return_, 1)]
theorem tv_X11_headRow : Tv cX11_headRow tb_X11_headRow := by
  unfold Tv
  decide +kernel
theorem w_813 : Cond.constant "LedgerFiles" 185 (1414874188 : Int32) ∈ TB := tp_3 187 (by decide +kernel) rfl
theorem w_814 : Cond.methodLink "LedgerFiles" 186 yX2_setFour ∈ TB := tp_3 188 (by decide +kernel) rfl
theorem cw_X11_186 : Cw RX11 186 yX2_setFour cX2_setFour 3 none 3 := ⟨w_814, w_791, w_149, by decide +kernel, by decide +kernel, by decide⟩
theorem w_815 : Cond.methodLink "LedgerFiles" 190 yX2_setTwo ∈ TB := tp_3 189 (by decide +kernel) rfl
theorem cw_X11_190 : Cw RX11 190 yX2_setTwo cX2_setTwo 3 none 3 := ⟨w_815, w_788, w_149, by decide +kernel, by decide +kernel, by decide⟩
set_option maxRecDepth 100000 in
set_option maxHeartbeats 4000000 in
theorem c_X11_headRow (E : gE) (f : Nat → va_E) (tp : Nat → Int32) (fd : Nat) (mo : Int32) (hE : 350 ≤ gN E) (N : Nat) (d : DkT) (on le wr ss : Int32) (hN : N ≤ 1024) (m0 : f 0 = .inr (11, [.ref (gAd E (1)), .int (nI fd), .int (mo), .ref (gAd E (2)), .ref (gAd E (8)), .ref (gAd E (13)), .ref (gAd E (17)), .ref (gAd E (25)), .ref (gAd E (37)), .ref (gAd E (32)), .ref (gAd E (40)), .ref (gAd E (41)), .ref (gAd E (44)), .ref (gAd E (47)), .ref (gAd E (50)), .ref (gAd E (53)), .ref (gAd E (54)), .ref (gAd E (55))])) (hdv2 : f 2 = .inr (2, [.int (nI N), .ref (gAd E (3)), .ref (gAd E (4)), .ref (gAd E (5)), .ref (gAd E (6)), .ref (gAd E (7)), .int (nI d.2.2.2.2.2.1), .int (nI d.2.2.2.2.2.2), .int (on), .int (le), .int (wr), .int (ss)])) (sc : Nat → Int32) (hs : f 31 = oB (gDA E) 128 sc) : Ct E 3 yX11_headRow cX11_headRow 2 none [.ref (gAd E (0)), .ref (gAd E (31))] f (fun v g => v = none ∧ g 31 = oB (gDA E) 128 (hRow N sc) ∧ Fr ScK f g, fun _ _ => False) := by
  refine Ct.of (by decide) (Nat.le_of_ble_eq_true rfl) (fun sz => ?_)
  refine G.eql [(0, .ref (gAd E (0))), (1, .ref (gAd E (31)))] rfl ?_
  refine G.go tv_X11_headRow 2 2 [(0, .ref (gAd E (0))), (1, .ref (gAd E (31)))] [.int ((0 : Int32)), .ref (gAd E (31))] rfl ?_
  refine G.callS [.ref (gAd E (31)), .int ((0 : Int32))] [] (c_J7_fill_031fb E _ 31 (128) (sc) ((0 : Int32)) (by omega) (hs) (by omega)) cw_X11_162 w_715 (Nat.le_of_ble_eq_true rfl) rfl (Nat.le_of_ble_eq_true rfl) (tbd tv_X11_headRow rfl) (fun v1 f1 q1 => ?_) (fun _ _ h => h.elim)
  obtain ⟨rfl, rfl⟩ := q1
  refine G.eqs [] rfl ?_
  refine G.go tv_X11_headRow 2 7 [(0, .ref (gAd E (0))), (1, .ref (gAd E (31)))] [.int ((0 : Int32)), .ref (gAd E (31))] rfl ?_
  refine G.ldc (1414874188) (tbd tv_X11_headRow rfl) w_813 ?_
  refine G.eqs [.int ((1414874188 : Int32)), .int (nI 0), .ref (gAd E (31))] rfl ?_
  refine G.callS [.ref (gAd E (31)), .int (nI 0), .int ((1414874188 : Int32))] [] (c_X2_setFour E _ 31 0 128 (flt (sc) 0 (128) (0)) (by omega) (up_e) (by omega) (by omega) ((1414874188 : Int32))) cw_X11_186 w_790 (Nat.le_of_ble_eq_true rfl) rfl (Nat.le_of_ble_eq_true rfl) (tbd tv_X11_headRow rfl) (fun v2 f2 q2 => ?_) (fun _ _ h => h.elim)
  obtain ⟨rfl, rfl⟩ := q2
  refine G.eqs [] rfl ?_
  refine G.go tv_X11_headRow 3 15 [(0, .ref (gAd E (0))), (1, .ref (gAd E (31)))] [.ref (gAd E (0)), .int ((4 : Int32)), .ref (gAd E (31))] rfl ?_
  refine G.getf cls_X11 (0) 3 (by omega) (up_n (by decide) (up_n (by decide) (m0))) (by decide) rfl (tbd tv_X11_headRow rfl) w_566 ?_
  refine G.getf cls_X2 (2) 0 (by omega) (up_n (by decide) (up_n (by decide) (hdv2))) (by decide) rfl (tbd tv_X11_headRow rfl) w_229 ?_
  refine G.eqs [.int (nI N), .int (nI 4), .ref (gAd E (31))] rfl ?_
  refine G.callS [.ref (gAd E (31)), .int (nI 4), .int (nI N)] [] (c_X2_setTwo E _ 31 4 128 (s_four (flt (sc) 0 (128) (0)) 0 ((1414874188 : Int32))) (by omega) (up_e) (by omega) (by omega) (nI N)) cw_X11_190 w_787 (Nat.le_of_ble_eq_true rfl) rfl (Nat.le_of_ble_eq_true rfl) (tbd tv_X11_headRow rfl) (fun v3 f3 q3 => ?_) (fun _ _ h => h.elim)
  obtain ⟨rfl, rfl⟩ := q3
  refine G.eqs [] rfl ?_
  refine G.go tv_X11_headRow 3 29 [(0, .ref (gAd E (0))), (1, .ref (gAd E (31)))] [.int ((40 : Int32)), .int ((6 : Int32)), .ref (gAd E (31))] rfl ?_
  refine G.eqs [.int ((40 : Int32)), .int (nI 6), .ref (gAd E (31))] (rfl) ?_
  refine G.bastN (31) (6) (by omega) (up_e) (by decide) (by decide) (tbd tv_X11_headRow rfl) ?_
  refine G.go tv_X11_headRow 3 35 [(0, .ref (gAd E (0))), (1, .ref (gAd E (31)))] [.int ((64 : Int32)), .int ((7 : Int32)), .ref (gAd E (31))] rfl ?_
  refine G.eqs [.int ((64 : Int32)), .int (nI 7), .ref (gAd E (31))] (rfl) ?_
  refine G.bastN (31) (7) (by omega) (up_e) (by decide) (by decide) (tbd tv_X11_headRow rfl) ?_
  exact G.vret rfl ⟨rfl, up_e, Fr.up (Fr.up (Fr.up (Fr.up (Fr.up (Fr.rf) rfl) rfl) rfl) rfl) rfl⟩ (tbd tv_X11_headRow rfl)
