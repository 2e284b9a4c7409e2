/-- how many of the first k that wait are of block t -/
def rWo (bo : Nat → Int32) (wf t : Nat) : Nat → Nat
  | 0 => 0
  | k + 1 => rWo bo wf t k + (if bo ((wf + k) % 256) = nI t then 1 else 0)
theorem rWo_le (bo : Nat → Int32) (wf t : Nat) : ∀ k, rWo bo wf t k ≤ k
  | 0 => Nat.le_refl 0
  | k + 1 => by
    have := rWo_le bo wf t k
    unfold rWo
    split <;> omega
theorem rWo_y {bo : Nat → Int32} {wf t k : Nat} (h : bo ((wf + k) % 256) = nI t) : rWo bo wf t (k + 1) = rWo bo wf t k + 1 := (show rWo bo wf t (k + 1) = rWo bo wf t k + (if bo ((wf + k) % 256) = nI t then 1 else 0) from rfl).trans (by rw [if_pos h])
theorem rWo_n {bo : Nat → Int32} {wf t k : Nat} (h : ¬ bo ((wf + k) % 256) = nI t) : rWo bo wf t (k + 1) = rWo bo wf t k := (show rWo bo wf t (k + 1) = rWo bo wf t k + (if bo ((wf + k) % 256) = nI t then 1 else 0) from rfl).trans (by rw [if_neg h]; rfl)
def tb_X12_waitsOf : List (Nat × Instr × Nat) := [(0, .iconst 0, 1), (1, .istore_n 2, 1), (2, .iconst 0, 1), (3, .istore_n 3, 1), (4, .iload_n 3, 1), (5, .aload_n 0, 1), (6, .getfield 184, 3), (9, .if_icmp .ge 36, 3), (12, .aload_n 0, 1), (13, .getfield 17, 3), (16, .aload_n 0, 1), (17, .getfield 187, 3), (20, .iload_n 3, 1), (21, .iadd, 1), (22, .sipush 256, 3), (25, .irem, 1), (26, .iaload, 1), (27, .iload_n 1, 1), (28, .if_icmp .ne 9, 3), (31, .iload_n 2, 1), (32, .iconst 1, 1), (33, .iadd, 1), (34, .goto 4, 3), (37, .iload_n 2, 1), (38, .istore_n 2, 1), (39, .iinc 3 1, 3), (42, .goto (-38), 3), (45, .iload_n 2, 1), (46, .ireturn, 1)]
theorem tv_X12_waitsOf : Tv cX12_waitsOf tb_X12_waitsOf := by
  unfold Tv
  decide +kernel
theorem w_2075 : Cond.fieldLink "LedgerFilesModel" 184 "LedgerFilesModel" "waits" "I" ∈ TB := tp_9 9 (by decide +kernel) rfl
theorem w_2072 : Cond.fieldLink "LedgerFilesModel" 17 "LedgerFilesModel" "waitBlock" "[I" ∈ TB := tp_9 6 (by decide +kernel) rfl
theorem w_2074 : Cond.fieldLink "LedgerFilesModel" 187 "LedgerFilesModel" "waitFirst" "I" ∈ TB := tp_9 8 (by decide +kernel) rfl
set_option maxRecDepth 100000 in
set_option maxHeartbeats 4000000 in
theorem wo_loop (E : gE) (f0 : Nat → va_E) (sz : Nat) (A : Nat → Prop) (Q : gQ) (hE : 94 ≤ gN E) (R : RfT) (wf nw : Nat) (hwf : rS R 9 = nI wf) (hwf2 : wf < 256) (hnw : rS R 10 = nI nw) (hnw2 : nw ≤ 256) (t : Nat) (kq : ∀ g, RfV E g (R) → Fr RfK f0 g → G E (1, yX12_waitsOf, 4, (some .int), sz, A) cX12_waitsOf (gO E (1, yX12_waitsOf, 4, (some .int), sz, A) Q) 45 [(0, .ref (gAd E (56))), (1, .int (nI t)), (2, .int (nI (rWo (rA R 7) wf t (nw)))), (3, .int (nI (nw)))] [] g) : ∀ (d j : Nat), j + d = nw → ∀ f, RfV E f (R) → Fr RfK f0 f → G E (1, yX12_waitsOf, 4, (some .int), sz, A) cX12_waitsOf (gO E (1, yX12_waitsOf, 4, (some .int), sz, A) Q) 4 [(0, .ref (gAd E (56))), (1, .int (nI t)), (2, .int (nI (rWo (rA R 7) wf t (j)))), (3, .int (nI (j)))] [] f := by
  intro d
  induction d with
  | zero =>
    intro j e f r hf
    have e : j = nw := e
    refine G.go tv_X12_waitsOf 2 6 [(0, .ref (gAd E (56))), (1, .int (nI t)), (2, .int (nI (rWo (rA R 7) wf t (j)))), (3, .int (nI (j)))] [.ref (gAd E (56)), .int (nI (j))] rfl ?_
    refine G.rg r hE 10 (.int (rS R 10)) (by decide) rfl (tbd tv_X12_waitsOf rfl) w_2075 ?_
    refine G.cmp_ge 45 (tbd tv_X12_waitsOf rfl) (by decide) (fun c9 => ?_) (fun c9 => absurd (by rw [hnw, e]; exact nI_le (Nat.le_refl _) (by omega)) c9)
    refine G.eql [(0, .ref (gAd E (56))), (1, .int (nI t)), (2, .int (nI (rWo (rA R 7) wf t (nw)))), (3, .int (nI (nw)))] (by rw [e]) ?_
    exact kq _ (by first | exact r | exact e ▸ r) (hf)
  | succ d ih =>
    intro j e f r hf
    refine G.go tv_X12_waitsOf 2 6 [(0, .ref (gAd E (56))), (1, .int (nI t)), (2, .int (nI (rWo (rA R 7) wf t (j)))), (3, .int (nI (j)))] [.ref (gAd E (56)), .int (nI (j))] rfl ?_
    refine G.rg r hE 10 (.int (rS R 10)) (by decide) rfl (tbd tv_X12_waitsOf rfl) w_2075 ?_
    refine G.cmp_ge 45 (tbd tv_X12_waitsOf rfl) (by decide) (fun c9 => absurd c9 (by rw [hnw]; exact nI_ge (by omega) (by omega))) (fun c9 => ?_)
    refine G.go tv_X12_waitsOf 1 13 [(0, .ref (gAd E (56))), (1, .int (nI t)), (2, .int (nI (rWo (rA R 7) wf t (j)))), (3, .int (nI (j)))] [.ref (gAd E (56))] rfl ?_
    refine G.rg r hE 7 (.ref (gAd E (59))) (by decide) rfl (tbd tv_X12_waitsOf rfl) w_2072 ?_
    refine G.go tv_X12_waitsOf 1 17 [(0, .ref (gAd E (56))), (1, .int (nI t)), (2, .int (nI (rWo (rA R 7) wf t (j)))), (3, .int (nI (j)))] [.ref (gAd E (56)), .ref (gAd E (59))] rfl ?_
    refine G.rg r hE 9 (.int (rS R 9)) (by decide) rfl (tbd tv_X12_waitsOf rfl) w_2074 ?_
    refine G.go tv_X12_waitsOf 3 25 [(0, .ref (gAd E (56))), (1, .int (nI t)), (2, .int (nI (rWo (rA R 7) wf t (j)))), (3, .int (nI (j)))] [.int ((256 : Int32)), .int ((rS R 9) + (nI (j))), .ref (gAd E (59))] rfl ?_
    refine G.irem (by decide) (tbd tv_X12_waitsOf rfl) ?_
    refine G.eqs [.int (nI ((wf + j) % 256)), .ref (gAd E (59))] (by rw [hwf, nI_add, show (256 : Int32) = nI 256 from rfl, pk_rem (by omega) (by omega) (by omega)]) ?_
    refine G.ialdN (59) ((wf + j) % 256) (by omega) (r.a7) (Nat.mod_lt _ (by decide)) (by decide) (tbd tv_X12_waitsOf rfl) ?_
    refine G.go tv_X12_waitsOf 1 28 [(0, .ref (gAd E (56))), (1, .int (nI t)), (2, .int (nI (rWo (rA R 7) wf t (j)))), (3, .int (nI (j)))] [.int (nI t), .int ((rA R 7) ((wf + j) % 256))] rfl ?_
    refine G.cmp_ne 37 (tbd tv_X12_waitsOf rfl) (by decide) (fun c28 => ?_) (fun c28 => ?_)
    · skip
      refine G.go tv_X12_waitsOf 4 4 [(0, .ref (gAd E (56))), (1, .int (nI t)), (2, .int (nI (rWo (rA R 7) wf t (j)))), (3, .int (nI (j) + (1 : Int32)))] [] rfl ?_
      refine G.eql [(0, .ref (gAd E (56))), (1, .int (nI t)), (2, .int (nI (rWo (rA R 7) wf t (j + 1)))), (3, .int (nI (j + 1)))] (by rw [nI_1, rWo_n c28]) ?_
      exact ih (j + 1) (by omega) _ (r) (hf)
    · skip
      refine G.go tv_X12_waitsOf 7 4 [(0, .ref (gAd E (56))), (1, .int (nI t)), (2, .int ((nI (rWo (rA R 7) wf t (j))) + ((1 : Int32)))), (3, .int (nI (j) + (1 : Int32)))] [] rfl ?_
      refine G.eql [(0, .ref (gAd E (56))), (1, .int (nI t)), (2, .int (nI (rWo (rA R 7) wf t (j + 1)))), (3, .int (nI (j + 1)))] (by rw [rWo_y c28, nI_1, nI_1]) ?_
      exact ih (j + 1) (by omega) _ (r) (hf)
set_option maxRecDepth 100000 in
set_option maxHeartbeats 4000000 in
theorem c_X12_waitsOf (E : gE) (f : Nat → va_E) (R : RfT) (wf nw : Nat) (hwf : rS R 9 = nI wf) (hwf2 : wf < 256) (hnw : rS R 10 = nI nw) (hnw2 : nw ≤ 256) (t : Nat) (hE : 94 ≤ gN E) (r : RfV E f R) : Ct E 1 yX12_waitsOf cX12_waitsOf 4 (some .int) [.ref (gAd E (56)), .int (nI t)] f (fun v g => v = some (.int (nI (rWo (rA R 7) wf t nw))) ∧ RfV E g (R) ∧ Fr RfK f g, fun _ _ => False) := by
  refine Ct.of (by decide) (Nat.le_of_ble_eq_true rfl) (fun sz => ?_)
  refine G.eql [(0, .ref (gAd E (56))), (1, .int (nI t))] rfl ?_
  refine G.go tv_X12_waitsOf 4 4 [(0, .ref (gAd E (56))), (1, .int (nI t)), (2, .int ((0 : Int32))), (3, .int ((0 : Int32)))] [] rfl ?_
  refine wo_loop E f _ _ _ hE R wf nw hwf hwf2 hnw hnw2 t ?_ nw 0 (by omega) f r Fr.rf
  intro u0 r0 h0
  refine G.go tv_X12_waitsOf 1 46 [(0, .ref (gAd E (56))), (1, .int (nI t)), (2, .int (nI (rWo (rA R 7) wf t (nw)))), (3, .int (nI (nw)))] [.int (nI (rWo (rA R 7) wf t (nw)))] rfl ?_
  exact G.iret rfl rfl (⟨rfl, r0, h0⟩) (tbd tv_X12_waitsOf rfl)
def rRd (R : RfT) (t : Nat) : Nat → Int32 := if rA R 40 t = -1 then va_cpy (rA R 6) (rA R 43) (128 * t) 0 128 else va_cpy (rA R 8) (rA R 43) (128 * (rA R 40 t).toNatClampNeg) 0 128
def tb_X12_readDisk : List (Nat × Instr × Nat) := [(0, .aload_n 0, 1), (1, .getfield 83, 3), (4, .iload_n 1, 1), (5, .iaload, 1), (6, .iconst (-1), 1), (7, .if_icmp .ne 20, 3), (10, .aload_n 0, 1), (11, .getfield 14, 3), (14, .sipush 128, 3), (17, .iload_n 1, 1), (18, .imul, 1), (19, .aload_n 2, 1), (20, .iconst 0, 1), (21, .invokestatic 190, 3), (24, .goto 22, 3), (27, .aload_n 0, 1), (28, .getfield 22, 3), (31, .sipush 128, 3), (34, .aload_n 0, 1), (35, .getfield 83, 3), (38, .iload_n 1, 1), (39, .iaload, 1), (40, .imul, 1), (41, .aload_n 2, 1), (42, .iconst 0, 1), (43, .invokestatic 190, 3), (46, .return_, 1)]
theorem tv_X12_readDisk : Tv cX12_readDisk tb_X12_readDisk := by
  unfold Tv
  decide +kernel
theorem w_2105 : Cond.fieldLink "LedgerFilesModel" 83 "LedgerFilesModel" "waitAt" "[I" ∈ TB := tp_9 39 (by decide +kernel) rfl
theorem w_2073 : Cond.fieldLink "LedgerFilesModel" 22 "LedgerFilesModel" "waitValue" "[B" ∈ TB := tp_9 7 (by decide +kernel) rfl
theorem w_2306 : Cond.methodLink "LedgerFilesModel" 190 yX12_move ∈ TB := tp_10 0 (by decide +kernel) rfl
theorem w_2308 : Cond.code yX12_move prog_14_method_11_code 5 none ∈ TB := tp_10 2 rfl rfl
theorem cw_X12_190 : Cw RX12 190 yX12_move cX12_move 5 none 4 := ⟨w_2306, w_2308, w_161, by decide +kernel, by decide +kernel, by decide⟩
theorem w_2307 : Cond.static yX12_move ∈ TB := tp_10 1 (by decide +kernel) rfl
theorem w_2071 : Cond.fieldLink "LedgerFilesModel" 14 "LedgerFilesModel" "synced" "[B" ∈ TB := tp_9 5 (by decide +kernel) rfl
set_option maxRecDepth 100000 in
set_option maxHeartbeats 4000000 in
theorem c_X12_readDisk (E : gE) (f : Nat → va_E) (R : RfT) (t : Nat) (ht : t < 1024) (hwa : rA R 40 t = -1 ∨ ∃ u, u < 256 ∧ rA R 40 t = nI u) (hb6 : Byt (rA R 6)) (hb8 : Byt (rA R 8)) (hE : 94 ≤ gN E) (r : RfV E f R) : Ct E 2 yX12_readDisk cX12_readDisk 3 none [.ref (gAd E (56)), .int (nI t), .ref (gAd E (78))] f (fun v g => v = none ∧ RfV E g (setA R 43 (rRd R t)) ∧ Fr RfK f g, fun _ _ => False) := by
  refine Ct.of (by decide) (Nat.le_of_ble_eq_true rfl) (fun sz => ?_)
  refine G.eql [(0, .ref (gAd E (56))), (1, .int (nI t)), (2, .ref (gAd E (78)))] rfl ?_
  refine G.go tv_X12_readDisk 1 1 [(0, .ref (gAd E (56))), (1, .int (nI t)), (2, .ref (gAd E (78)))] [.ref (gAd E (56))] rfl ?_
  refine G.rg r hE 40 (.ref (gAd E (77))) (by decide) rfl (tbd tv_X12_readDisk rfl) w_2105 ?_
  refine G.go tv_X12_readDisk 1 5 [(0, .ref (gAd E (56))), (1, .int (nI t)), (2, .ref (gAd E (78)))] [.int (nI t), .ref (gAd E (77))] rfl ?_
  refine G.ialdN (77) (t) (by omega) (r.a40) (ht) (by decide) (tbd tv_X12_readDisk rfl) ?_
  refine G.go tv_X12_readDisk 1 7 [(0, .ref (gAd E (56))), (1, .int (nI t)), (2, .ref (gAd E (78)))] [.int ((-1 : Int32)), .int ((rA R 40) (t))] rfl ?_
  refine G.cmp_ne 27 (tbd tv_X12_readDisk rfl) (by decide) (fun c7 => ?_) (fun c7 => ?_)
  · skip
    refine G.go tv_X12_readDisk 1 28 [(0, .ref (gAd E (56))), (1, .int (nI t)), (2, .ref (gAd E (78)))] [.ref (gAd E (56))] rfl ?_
    refine G.rg r hE 8 (.ref (gAd E (60))) (by decide) rfl (tbd tv_X12_readDisk rfl) w_2073 ?_
    refine G.go tv_X12_readDisk 2 35 [(0, .ref (gAd E (56))), (1, .int (nI t)), (2, .ref (gAd E (78)))] [.ref (gAd E (56)), .int ((128 : Int32)), .ref (gAd E (60))] rfl ?_
    refine G.rg r hE 40 (.ref (gAd E (77))) (by decide) rfl (tbd tv_X12_readDisk rfl) w_2105 ?_
    refine G.go tv_X12_readDisk 1 39 [(0, .ref (gAd E (56))), (1, .int (nI t)), (2, .ref (gAd E (78)))] [.int (nI t), .ref (gAd E (77)), .int ((128 : Int32)), .ref (gAd E (60))] rfl ?_
    refine G.ialdN (77) (t) (by omega) (r.a40) (ht) (by decide) (tbd tv_X12_readDisk rfl) ?_
    refine G.go tv_X12_readDisk 3 43 [(0, .ref (gAd E (56))), (1, .int (nI t)), (2, .ref (gAd E (78)))] [.int ((0 : Int32)), .ref (gAd E (78)), .int (((128 : Int32)) * ((rA R 40) (t))), .ref (gAd E (60))] rfl ?_
    obtain ⟨u, hu1, hu⟩ := hwa.resolve_left c7
    refine G.eqs [.int (nI (0)), .ref (gAd E (78)), .int (nI (128 * u)), .ref (gAd E (60))] (by rw [hu, show (128 : Int32) = nI 128 from rfl, pk_mul]; rfl) ?_
    refine G.callS [.ref (gAd E (60)), .int (nI (128 * u)), .ref (gAd E (78)), .int (nI (0))] [] (c_X12_move E _ 60 32768 78 128 (rA R 8) (rA R 43) (128 * u) (0) (by omega) (by omega) (by decide) r.a8 (by decide) (by decide) (by omega) (by omega) hb8 r.a43) cw_X12_190 w_2307 (Nat.le_of_ble_eq_true rfl) rfl (Nat.le_of_ble_eq_true rfl) (tbd tv_X12_readDisk rfl) (fun v1 f1 q1 => ?_) (fun _ _ h => h.elim)
    obtain ⟨rfl, ea1⟩ := q1
    refine G.eqs [] rfl ?_
    have ra1 : RfV E f1 (setA (R) 43 (va_cpy (rA R 8) (rA R 43) (128 * u) (0) 128)) := RfV.ar (r.p43 _) ea1
    have fa1 : Fr RfK f f1 := Fr.ar ⟨by decide, by decide⟩ ea1
    exact G.vret rfl (⟨rfl, (by unfold rRd; first | (rw [if_pos c7]; exact ra1) | (rw [if_neg c7, hu, nI_clamp (by omega)]; exact ra1)), fa1⟩) (tbd tv_X12_readDisk rfl)
  · skip
    refine G.go tv_X12_readDisk 1 11 [(0, .ref (gAd E (56))), (1, .int (nI t)), (2, .ref (gAd E (78)))] [.ref (gAd E (56))] rfl ?_
    refine G.rg r hE 6 (.ref (gAd E (58))) (by decide) rfl (tbd tv_X12_readDisk rfl) w_2071 ?_
    refine G.go tv_X12_readDisk 5 21 [(0, .ref (gAd E (56))), (1, .int (nI t)), (2, .ref (gAd E (78)))] [.int ((0 : Int32)), .ref (gAd E (78)), .int (((128 : Int32)) * (nI t)), .ref (gAd E (58))] rfl ?_
    refine G.eqs [.int (nI (0)), .ref (gAd E (78)), .int (nI (128 * t)), .ref (gAd E (58))] (by rw [show (128 : Int32) = nI 128 from rfl, pk_mul]; rfl) ?_
    refine G.callS [.ref (gAd E (58)), .int (nI (128 * t)), .ref (gAd E (78)), .int (nI (0))] [] (c_X12_move E _ 58 131072 78 128 (rA R 6) (rA R 43) (128 * t) (0) (by omega) (by omega) (by decide) r.a6 (by decide) (by decide) (by omega) (by omega) hb6 r.a43) cw_X12_190 w_2307 (Nat.le_of_ble_eq_true rfl) rfl (Nat.le_of_ble_eq_true rfl) (tbd tv_X12_readDisk rfl) (fun v2 f2 q2 => ?_) (fun _ _ h => h.elim)
    obtain ⟨rfl, ea2⟩ := q2
    refine G.eqs [] rfl ?_
    have ra2 : RfV E f2 (setA (R) 43 (va_cpy (rA R 6) (rA R 43) (128 * t) (0) 128)) := RfV.ar (r.p43 _) ea2
    have fa2 : Fr RfK f f2 := Fr.ar ⟨by decide, by decide⟩ ea2
    refine G.go tv_X12_readDisk 1 46 [(0, .ref (gAd E (56))), (1, .int (nI t)), (2, .ref (gAd E (78)))] [] rfl ?_
    exact G.vret rfl (⟨rfl, (by unfold rRd; first | (rw [if_pos c7]; exact ra2) | (rw [if_neg c7, hu, nI_clamp (by omega)]; exact ra2)), fa2⟩) (tbd tv_X12_readDisk rfl)
def tb_X12_byteAt : List (Nat × Instr × Nat) := [(0, .aload_n 0, 1), (1, .aload_n 0, 1), (2, .iload_n 1, 1), (3, .iload_n 2, 1), (4, .invokevirtual 512, 3), (7, .ifCond .ne 7, 3), (10, .iconst 1, 1), (11, .goto 4, 3), (14, .iconst 0, 1), (15, .iconst 1, 1), (16, .invokevirtual 385, 3), (19, .ifCond .eq 5, 3), (22, .iconst 0, 1), (23, .ireturn, 1), (24, .aload_n 0, 1), (25, .iload_n 1, 1), (26, .aload_n 0, 1), (27, .getfield 86, 3), (30, .invokevirtual 399, 3), (33, .aload_n 0, 1), (34, .getfield 86, 3), (37, .iload_n 2, 1), (38, .baload, 1), (39, .sipush 255, 3), (42, .iand, 1), (43, .ireturn, 1)]
theorem tv_X12_byteAt : Tv cX12_byteAt tb_X12_byteAt := by
  unfold Tv
  decide +kernel
theorem w_2789 : Cond.methodLink "LedgerFilesModel" 512 yX12_isByte ∈ TB := tp_12 3 (by decide +kernel) rfl
theorem w_2792 : Cond.code yX12_isByte prog_14_method_137_code 3 (some .boolean) ∈ TB := tp_12 6 rfl rfl
theorem cw_X12_512 : Cw RX12 512 yX12_isByte cX12_isByte 3 (some .boolean) 2 := ⟨w_2789, w_2792, w_161, by decide +kernel, by decide +kernel, by decide⟩
theorem w_2791 : Cond.instanceMethod yX12_isByte ∈ TB := tp_12 5 (by decide +kernel) rfl
theorem w_141 : Cond.selects "LedgerFilesModel" yX12_isByte yX12_isByte ∈ TB := tp_0 141 (by decide +kernel) rfl
theorem w_2108 : Cond.fieldLink "LedgerFilesModel" 86 "LedgerFilesModel" "row" "[B" ∈ TB := tp_9 42 (by decide +kernel) rfl
theorem w_2345 : Cond.methodLink "LedgerFilesModel" 399 yX12_readDisk ∈ TB := tp_10 39 (by decide +kernel) rfl
theorem w_2348 : Cond.code yX12_readDisk prog_14_method_14_code 3 none ∈ TB := tp_10 42 rfl rfl
theorem cw_X12_399 : Cw RX12 399 yX12_readDisk cX12_readDisk 3 none 2 := ⟨w_2345, w_2348, w_161, by decide +kernel, by decide +kernel, by decide⟩
theorem w_2347 : Cond.instanceMethod yX12_readDisk ∈ TB := tp_10 41 (by decide +kernel) rfl
theorem w_70 : Cond.selects "LedgerFilesModel" yX12_readDisk yX12_readDisk ∈ TB := tp_0 70 (by decide +kernel) rfl
set_option maxRecDepth 100000 in
set_option maxHeartbeats 4000000 in
theorem c_X12_byteAt (E : gE) (f : Nat → va_E) (R : RfT) (N : Nat) (hN : rS R 1 = nI N) (hN2 : N ≤ 1024) (hwa : ∀ t, t < N → rA R 40 t = -1 ∨ ∃ u, u < 256 ∧ rA R 40 t = nI u) (hb6 : Byt (rA R 6)) (hb8 : Byt (rA R 8)) (hE : 94 ≤ gN E) (r : RfV E f R) (x i : Int32) : Ct E 3 yX12_byteAt cX12_byteAt 3 (some .int) [.ref (gAd E (56)), .int (x), .int (i)] f (fun v g => (¬ (¬ x < 0 ∧ x < nI N ∧ ¬ i < 0 ∧ i < 128) ∧ v = some (.int 0) ∧ RfV E g (setS R 0 1) ∧ Fr RfK f g) ∨ (∃ t u, t < N ∧ u < 128 ∧ x = nI t ∧ i = nI u ∧ v = some (.int (rRd (setS R 0 0) t u &&& 255)) ∧ RfV E g (setA (setS R 0 0) 43 (rRd (setS R 0 0) t)) ∧ Fr RfK f g), fun _ _ => False) := by
  refine Ct.of (by decide) (Nat.le_of_ble_eq_true rfl) (fun sz => ?_)
  refine G.eql [(0, .ref (gAd E (56))), (1, .int (x)), (2, .int (i))] rfl ?_
  refine G.go tv_X12_byteAt 4 4 [(0, .ref (gAd E (56))), (1, .int (x)), (2, .int (i))] [.int (i), .int (x), .ref (gAd E (56)), .ref (gAd E (56))] rfl ?_
  refine G.callV (56) [.int (x), .int (i)] [.ref (gAd E (56))] (c_X12_isByte E _ (R) hE r N hN (x) (i)) cls_X12 (by omega) (r.o) cw_X12_512 w_2791 w_141 (Nat.le_of_ble_eq_true rfl) rfl (Nat.le_of_ble_eq_true rfl) (tbd tv_X12_byteAt rfl) (fun v1 f1 q1 => ?_) (fun _ _ h => h.elim)
  obtain ⟨rfl, hq1⟩ := q1
  rcases hq1 with ⟨nb, rfl⟩ | ⟨b1, b2, b3, b4, rfl⟩
  · skip
    refine G.eqs [.int ((0 : Int32)), .ref (gAd E (56))] rfl ?_
    refine G.if_ne 14 (tbd tv_X12_byteAt rfl) (by decide) (fun c7 => absurd (by decide) c7) (fun c7 => ?_)
    refine G.go tv_X12_byteAt 3 16 [(0, .ref (gAd E (56))), (1, .int (x)), (2, .int (i))] [.int ((1 : Int32)), .int ((1 : Int32)), .ref (gAd E (56))] rfl ?_
    refine G.callV (56) [.int ((1 : Int32)), .int ((1 : Int32))] [] (c_X12_refuse E _ (R) hE r ((1 : Int32)) ((1 : Int32)) (Or.inr rfl)) cls_X12 (by omega) (r.o) cw_X12_385 w_2268 w_53 (Nat.le_of_ble_eq_true rfl) rfl (Nat.le_of_ble_eq_true rfl) (tbd tv_X12_byteAt rfl) (fun v2 f2 q2 => ?_) (fun _ _ h => h.elim)
    obtain ⟨rfl, ra2, fa2⟩ := q2
    refine G.eqs [.int ((1 : Int32))] rfl ?_
    refine G.if_eq 24 (tbd tv_X12_byteAt rfl) (by decide) (fun c19 => absurd c19 (by decide)) (fun c19 => ?_)
    refine G.go tv_X12_byteAt 1 23 [(0, .ref (gAd E (56))), (1, .int (x)), (2, .int (i))] [.int ((0 : Int32))] rfl ?_
    exact G.iret rfl rfl (Or.inl ⟨nb, rfl, ra2, fa2⟩) (tbd tv_X12_byteAt rfl)
  · obtain ⟨t, ht31, rfl⟩ := nI_of b1
    have ht : t < N := (nI_ltI (by omega) (by omega)).mp b2
    obtain ⟨u, hu31, rfl⟩ := nI_of b3
    have hu : u < 128 := (nI_ltI (by omega) (by omega) : nI u < nI 128 ↔ u < 128).mp b4
    refine G.eqs [.int ((1 : Int32)), .ref (gAd E (56))] rfl ?_
    refine G.if_ne 14 (tbd tv_X12_byteAt rfl) (by decide) (fun c7 => ?_) (fun c7 => absurd c7 (by decide))
    refine G.go tv_X12_byteAt 2 16 [(0, .ref (gAd E (56))), (1, .int (nI t)), (2, .int (nI u))] [.int ((1 : Int32)), .int ((0 : Int32)), .ref (gAd E (56))] rfl ?_
    refine G.callV (56) [.int ((0 : Int32)), .int ((1 : Int32))] [] (c_X12_refuse E _ (R) hE r ((0 : Int32)) ((1 : Int32)) (Or.inl rfl)) cls_X12 (by omega) (r.o) cw_X12_385 w_2268 w_53 (Nat.le_of_ble_eq_true rfl) rfl (Nat.le_of_ble_eq_true rfl) (tbd tv_X12_byteAt rfl) (fun v3 f3 q3 => ?_) (fun _ _ h => h.elim)
    obtain ⟨rfl, ra3, fa3⟩ := q3
    refine G.eqs [.int ((0 : Int32))] rfl ?_
    refine G.if_eq 24 (tbd tv_X12_byteAt rfl) (by decide) (fun c19 => ?_) (fun c19 => absurd (by decide) c19)
    refine G.go tv_X12_byteAt 3 27 [(0, .ref (gAd E (56))), (1, .int (nI t)), (2, .int (nI u))] [.ref (gAd E (56)), .int (nI t), .ref (gAd E (56))] rfl ?_
    refine G.rg ra3 hE 43 (.ref (gAd E (78))) (by decide) rfl (tbd tv_X12_byteAt rfl) w_2108 ?_
    refine G.callV (56) [.int (nI t), .ref (gAd E (78))] [] (c_X12_readDisk E _ (setS (R) 0 0) t (by omega) (hwa t ht) hb6 hb8 hE ra3) cls_X12 (by omega) (ra3.o) cw_X12_399 w_2347 w_70 (Nat.le_of_ble_eq_true rfl) rfl (Nat.le_of_ble_eq_true rfl) (tbd tv_X12_byteAt rfl) (fun v4 f4 q4 => ?_) (fun _ _ h => h.elim)
    obtain ⟨rfl, ra4, fa4⟩ := q4
    refine G.eqs [] rfl ?_
    refine G.go tv_X12_byteAt 1 34 [(0, .ref (gAd E (56))), (1, .int (nI t)), (2, .int (nI u))] [.ref (gAd E (56))] rfl ?_
    refine G.rg ra4 hE 43 (.ref (gAd E (78))) (by decide) rfl (tbd tv_X12_byteAt rfl) w_2108 ?_
    refine G.go tv_X12_byteAt 1 38 [(0, .ref (gAd E (56))), (1, .int (nI t)), (2, .int (nI u))] [.int (nI u), .ref (gAd E (78))] rfl ?_
    refine G.baldN (78) (u) (by omega) (ra4.a43) (hu) (by decide) (tbd tv_X12_byteAt rfl) ?_
    refine G.go tv_X12_byteAt 2 43 [(0, .ref (gAd E (56))), (1, .int (nI t)), (2, .int (nI u))] [.int (((rA (setA (setS (R) 0 0) 43 (rRd (setS (R) 0 0) t)) 43) (u)) &&& ((255 : Int32)))] rfl ?_
    exact G.iret rfl rfl (Or.inr ⟨t, u, ht, hu, rfl, rfl, rfl, ra4, (fa3).tr fa4 (fun _ h => h)⟩) (tbd tv_X12_byteAt rfl)
def tb_X12_waiting : List (Nat × Instr × Nat) := [(0, .aload_n 0, 1), (1, .aload_n 0, 1), (2, .iload_n 1, 1), (3, .iconst 0, 1), (4, .invokevirtual 512, 3), (7, .ifCond .ne 7, 3), (10, .iconst 1, 1), (11, .goto 4, 3), (14, .iconst 0, 1), (15, .iconst 1, 1), (16, .invokevirtual 385, 3), (19, .ifCond .eq 7, 3), (22, .iconst 0, 1), (23, .goto 8, 3), (26, .aload_n 0, 1), (27, .iload_n 1, 1), (28, .invokevirtual 505, 3), (31, .ireturn, 1)]
theorem tv_X12_waiting : Tv cX12_waiting tb_X12_waiting := by
  unfold Tv
  decide +kernel
theorem w_2779 : Cond.methodLink "LedgerFilesModel" 505 yX12_waitsOf ∈ TB := tp_11 233 (by decide +kernel) rfl
theorem w_2782 : Cond.code yX12_waitsOf prog_14_method_135_code 4 (some .int) ∈ TB := tp_11 236 rfl rfl
theorem cw_X12_505 : Cw RX12 505 yX12_waitsOf cX12_waitsOf 4 (some .int) 1 := ⟨w_2779, w_2782, w_161, by decide +kernel, by decide +kernel, by decide⟩
theorem w_2781 : Cond.instanceMethod yX12_waitsOf ∈ TB := tp_11 235 (by decide +kernel) rfl
theorem w_140 : Cond.selects "LedgerFilesModel" yX12_waitsOf yX12_waitsOf ∈ TB := tp_0 140 (by decide +kernel) rfl
set_option maxRecDepth 100000 in
set_option maxHeartbeats 4000000 in
theorem c_X12_waiting (E : gE) (f : Nat → va_E) (R : RfT) (wf nw : Nat) (hwf : rS R 9 = nI wf) (hwf2 : wf < 256) (hnw : rS R 10 = nI nw) (hnw2 : nw ≤ 256) (N : Nat) (hN : rS R 1 = nI N) (hN2 : N ≤ 1024) (hE : 94 ≤ gN E) (r : RfV E f R) (x : Int32) : Ct E 3 yX12_waiting cX12_waiting 2 (some .int) [.ref (gAd E (56)), .int (x)] f (fun v g => (¬ (¬ x < 0 ∧ x < nI N ∧ ¬ (0 : Int32) < 0 ∧ (0 : Int32) < 128) ∧ v = some (.int 0) ∧ RfV E g (setS R 0 1) ∧ Fr RfK f g) ∨ (∃ t, t < N ∧ x = nI t ∧ v = some (.int (nI (rWo (rA R 7) wf t nw))) ∧ RfV E g (setS R 0 0) ∧ Fr RfK f g), fun _ _ => False) := by
  refine Ct.of (by decide) (Nat.le_of_ble_eq_true rfl) (fun sz => ?_)
  refine G.eql [(0, .ref (gAd E (56))), (1, .int (x))] rfl ?_
  refine G.go tv_X12_waiting 4 4 [(0, .ref (gAd E (56))), (1, .int (x))] [.int ((0 : Int32)), .int (x), .ref (gAd E (56)), .ref (gAd E (56))] rfl ?_
  refine G.callV (56) [.int (x), .int ((0 : Int32))] [.ref (gAd E (56))] (c_X12_isByte E _ (R) hE r N hN (x) ((0 : Int32))) cls_X12 (by omega) (r.o) cw_X12_512 w_2791 w_141 (Nat.le_of_ble_eq_true rfl) rfl (Nat.le_of_ble_eq_true rfl) (tbd tv_X12_waiting rfl) (fun v1 f1 q1 => ?_) (fun _ _ h => h.elim)
  obtain ⟨rfl, hq1⟩ := q1
  rcases hq1 with ⟨nb, rfl⟩ | ⟨b1, b2, b3, b4, rfl⟩
  · skip
    refine G.eqs [.int ((0 : Int32)), .ref (gAd E (56))] rfl ?_
    refine G.if_ne 14 (tbd tv_X12_waiting rfl) (by decide) (fun c7 => absurd (by decide) c7) (fun c7 => ?_)
    refine G.go tv_X12_waiting 3 16 [(0, .ref (gAd E (56))), (1, .int (x))] [.int ((1 : Int32)), .int ((1 : Int32)), .ref (gAd E (56))] rfl ?_
    refine G.callV (56) [.int ((1 : Int32)), .int ((1 : Int32))] [] (c_X12_refuse E _ (R) hE r ((1 : Int32)) ((1 : Int32)) (Or.inr rfl)) cls_X12 (by omega) (r.o) cw_X12_385 w_2268 w_53 (Nat.le_of_ble_eq_true rfl) rfl (Nat.le_of_ble_eq_true rfl) (tbd tv_X12_waiting rfl) (fun v2 f2 q2 => ?_) (fun _ _ h => h.elim)
    obtain ⟨rfl, ra2, fa2⟩ := q2
    refine G.eqs [.int ((1 : Int32))] rfl ?_
    refine G.if_eq 26 (tbd tv_X12_waiting rfl) (by decide) (fun c19 => absurd c19 (by decide)) (fun c19 => ?_)
    refine G.go tv_X12_waiting 2 31 [(0, .ref (gAd E (56))), (1, .int (x))] [.int ((0 : Int32))] rfl ?_
    exact G.iret rfl rfl (Or.inl ⟨nb, rfl, ra2, fa2⟩) (tbd tv_X12_waiting rfl)
  · obtain ⟨t, ht31, rfl⟩ := nI_of b1
    have ht : t < N := (nI_ltI (by omega) (by omega)).mp b2
    refine G.eqs [.int ((1 : Int32)), .ref (gAd E (56))] rfl ?_
    refine G.if_ne 14 (tbd tv_X12_waiting rfl) (by decide) (fun c7 => ?_) (fun c7 => absurd c7 (by decide))
    refine G.go tv_X12_waiting 2 16 [(0, .ref (gAd E (56))), (1, .int (nI t))] [.int ((1 : Int32)), .int ((0 : Int32)), .ref (gAd E (56))] rfl ?_
    refine G.callV (56) [.int ((0 : Int32)), .int ((1 : Int32))] [] (c_X12_refuse E _ (R) hE r ((0 : Int32)) ((1 : Int32)) (Or.inl rfl)) cls_X12 (by omega) (r.o) cw_X12_385 w_2268 w_53 (Nat.le_of_ble_eq_true rfl) rfl (Nat.le_of_ble_eq_true rfl) (tbd tv_X12_waiting rfl) (fun v3 f3 q3 => ?_) (fun _ _ h => h.elim)
    obtain ⟨rfl, ra3, fa3⟩ := q3
    refine G.eqs [.int ((0 : Int32))] rfl ?_
    refine G.if_eq 26 (tbd tv_X12_waiting rfl) (by decide) (fun c19 => ?_) (fun c19 => absurd (by decide) c19)
    refine G.go tv_X12_waiting 2 28 [(0, .ref (gAd E (56))), (1, .int (nI t))] [.int (nI t), .ref (gAd E (56))] rfl ?_
    refine G.callV (56) [.int (nI t)] [] (c_X12_waitsOf E _ (setS (R) 0 0) wf nw hwf hwf2 hnw hnw2 t hE ra3) cls_X12 (by omega) (ra3.o) cw_X12_505 w_2781 w_140 (Nat.le_of_ble_eq_true rfl) rfl (Nat.le_of_ble_eq_true rfl) (tbd tv_X12_waiting rfl) (fun v4 f4 q4 => ?_) (fun _ _ h => h.elim)
    obtain ⟨rfl, ra4, fa4⟩ := q4
    refine G.eqs [.int (nI (rWo (rA R 7) wf t nw))] rfl ?_
    exact G.iret rfl rfl (Or.inr ⟨t, ht, rfl, rfl, ra4, (fa3).tr fa4 (fun _ h => h)⟩) (tbd tv_X12_waiting rfl)
def rCnt (R : RfT) (x : Int32) : Int32 := if x = 6 then rS R 18 else if x = 7 then rS R 10 else if x = 8 then rS R 13 else if x = 9 then rS R 14 else if x = 10 then rS R 12 else if x = 11 then rS R 20 else if x = 12 then rS R 5 else if x = 13 then 0 else if x = 14 then (if rS R 11 = 0 then 0 else 1) else 0
theorem rCnt_out {x : Int32} (h : x < 6 ∨ 14 < x) {R : RfT} : rCnt R x = 0 := by
  have n : ∀ y : Int32, 6 ≤ y → y ≤ 14 → ¬ x = y := by
    intro y h6 h14 e
    rw [e] at h
    rcases h with h | h
    · exact absurd h (Int32.not_lt.mpr h6)
    · exact absurd h (Int32.not_lt.mpr h14)
  unfold rCnt
  rw [if_neg (n 6 (by decide) (by decide)), if_neg (n 7 (by decide) (by decide)), if_neg (n 8 (by decide) (by decide)), if_neg (n 9 (by decide) (by decide)), if_neg (n 10 (by decide) (by decide)), if_neg (n 11 (by decide) (by decide)), if_neg (n 12 (by decide) (by decide)), if_neg (n 13 (by decide) (by decide)), if_neg (n 14 (by decide) (by decide))]
theorem rcnt_cases {x : Int32} (h1 : ¬ x < 6) (h2 : x ≤ 14) : x = 6 ∨ x = 7 ∨ x = 8 ∨ x = 9 ∨ x = 10 ∨ x = 11 ∨ x = 12 ∨ x = 13 ∨ x = 14 := by
  have h0 : ¬ x < 0 := fun q => h1 (Int32.lt_of_lt_of_le q (by decide))
  obtain ⟨t, ht, rfl⟩ := nI_of h0
  have a : ¬ t < 6 := fun q => h1 (nI_lt q (by omega) : nI t < nI 6)
  have b : t ≤ 14 := (nI_leI (by omega) (by omega) : nI t ≤ nI 14 ↔ t ≤ 14).mp h2
  have e : t = 6 ∨ t = 7 ∨ t = 8 ∨ t = 9 ∨ t = 10 ∨ t = 11 ∨ t = 12 ∨ t = 13 ∨ t = 14 := by omega
  rcases e with rfl | rfl | rfl | rfl | rfl | rfl | rfl | rfl | rfl <;> simp [nI]
def tb_X12_count : List (Nat × Instr × Nat) := [(0, .aload_n 0, 1), (1, .iload_n 1, 1), (2, .ifCond .lt 9, 3), (5, .iload_n 1, 1), (6, .bipush 17, 2), (8, .if_icmp .le 7, 3), (11, .iconst 1, 1), (12, .goto 4, 3), (15, .iconst 0, 1), (16, .iconst 1, 1), (17, .invokevirtual 385, 3), (20, .ifCond .eq 5, 3), (23, .iconst 0, 1), (24, .ireturn, 1), (25, .iload_n 1, 1), (26, .bipush 6, 2), (28, .if_icmp .lt 9, 3), (31, .iload_n 1, 1), (32, .bipush 14, 2), (34, .if_icmp .le 20, 3), (37, .aload_n 0, 1), (38, .getfield 156, 3), (41, .ifCond .eq 11, 3), (44, .aload_n 0, 1), (45, .iload_n 1, 1), (46, .invokevirtual 535, 3), (49, .goto 4, 3), (52, .iconst 0, 1), (53, .ireturn, 1), (54, .iload_n 1, 1), (55, .tableswitch 93 6 13 #[45, 50, 55, 60, 65, 70, 75, 80], 45), (100, .aload_n 0, 1), (101, .getfield 159, 3), (104, .ireturn, 1), (105, .aload_n 0, 1), (106, .getfield 184, 3), (109, .ireturn, 1), (110, .aload_n 0, 1), (111, .getfield 181, 3), (114, .ireturn, 1), (115, .aload_n 0, 1), (116, .getfield 194, 3), (119, .ireturn, 1), (120, .aload_n 0, 1), (121, .getfield 29, 3), (124, .ireturn, 1), (125, .aload_n 0, 1), (126, .getfield 205, 3), (129, .ireturn, 1), (130, .aload_n 0, 1), (131, .getfield 150, 3), (134, .ireturn, 1), (135, .aload_n 0, 1), (136, .getfield 156, 3), (139, .ifCond .eq 7, 3), (142, .iconst 1, 1), (143, .goto 4, 3), (146, .iconst 0, 1), (147, .ireturn, 1), (148, .aload_n 0, 1), (149, .getfield 25, 3), (152, .ifCond .eq 7, 3), (155, .iconst 1, 1), (156, .goto 4, 3), (159, .iconst 0, 1), (160, .ireturn, 1)]
theorem tv_X12_count : Tv cX12_count tb_X12_count := by
  unfold Tv
  decide +kernel
theorem w_2078 : Cond.fieldLink "LedgerFilesModel" 181 "LedgerFilesModel" "writes" "I" ∈ TB := tp_9 12 (by decide +kernel) rfl
theorem w_2079 : Cond.fieldLink "LedgerFilesModel" 194 "LedgerFilesModel" "syncs" "I" ∈ TB := tp_9 13 (by decide +kernel) rfl
theorem w_2085 : Cond.fieldLink "LedgerFilesModel" 205 "LedgerFilesModel" "pushed" "I" ∈ TB := tp_9 19 (by decide +kernel) rfl
set_option maxRecDepth 100000 in
set_option maxHeartbeats 4000000 in
theorem u_X12_count (E : gE) (f : Nat → va_E) (R : RfT) (hE : 94 ≤ gN E) (r : RfV E f R) (hm : rS R 21 = 0) (x : Int32) : Ct E 2 yX12_count cX12_count 2 (some .int) [.ref (gAd E (56)), .int (x)] f (fun v g => ((x < 0 ∨ 17 < x) ∧ v = some (.int 0) ∧ RfV E g (setS R 0 1) ∧ Fr RfK f g) ∨ (¬ x < 0 ∧ x ≤ 17 ∧ v = some (.int (rCnt R x)) ∧ RfV E g (setS R 0 0) ∧ Fr RfK f g), fun _ _ => False) := by
  refine Ct.of (by decide) (Nat.le_of_ble_eq_true rfl) (fun sz => ?_)
  refine G.eql [(0, .ref (gAd E (56))), (1, .int (x))] rfl ?_
  refine G.go tv_X12_count 2 2 [(0, .ref (gAd E (56))), (1, .int (x))] [.int (x), .ref (gAd E (56))] rfl ?_
  refine G.if_lt 11 (tbd tv_X12_count rfl) (by decide) (fun c2 => ?_) (fun c2 => ?_)
  · skip
    refine G.go tv_X12_count 3 17 [(0, .ref (gAd E (56))), (1, .int (x))] [.int ((1 : Int32)), .int ((1 : Int32)), .ref (gAd E (56))] rfl ?_
    refine G.callV (56) [.int ((1 : Int32)), .int ((1 : Int32))] [] (c_X12_refuse E _ (R) hE r ((1 : Int32)) ((1 : Int32)) (Or.inr rfl)) cls_X12 (by omega) (r.o) cw_X12_385 w_2268 w_53 (Nat.le_of_ble_eq_true rfl) rfl (Nat.le_of_ble_eq_true rfl) (tbd tv_X12_count rfl) (fun v1 f1 q1 => ?_) (fun _ _ h => h.elim)
    obtain ⟨rfl, ra1, fa1⟩ := q1
    refine G.eqs [.int ((1 : Int32))] rfl ?_
    refine G.if_eq 25 (tbd tv_X12_count rfl) (by decide) (fun c20 => absurd c20 (by decide)) (fun c20 => ?_)
    refine G.go tv_X12_count 1 24 [(0, .ref (gAd E (56))), (1, .int (x))] [.int ((0 : Int32))] rfl ?_
    exact G.iret rfl rfl (Or.inl ⟨by first | exact Or.inl c2 | exact Or.inr (Int32.not_le.mp c8), rfl, ra1, fa1⟩) (tbd tv_X12_count rfl)
  · skip
    refine G.go tv_X12_count 2 8 [(0, .ref (gAd E (56))), (1, .int (x))] [.int ((17 : Int32)), .int (x), .ref (gAd E (56))] rfl ?_
    refine G.cmp_le 15 (tbd tv_X12_count rfl) (by decide) (fun c8 => ?_) (fun c8 => ?_)
    · skip
      refine G.go tv_X12_count 2 17 [(0, .ref (gAd E (56))), (1, .int (x))] [.int ((1 : Int32)), .int ((0 : Int32)), .ref (gAd E (56))] rfl ?_
      refine G.callV (56) [.int ((0 : Int32)), .int ((1 : Int32))] [] (c_X12_refuse E _ (R) hE r ((0 : Int32)) ((1 : Int32)) (Or.inl rfl)) cls_X12 (by omega) (r.o) cw_X12_385 w_2268 w_53 (Nat.le_of_ble_eq_true rfl) rfl (Nat.le_of_ble_eq_true rfl) (tbd tv_X12_count rfl) (fun v2 f2 q2 => ?_) (fun _ _ h => h.elim)
      obtain ⟨rfl, ra2, fa2⟩ := q2
      refine G.eqs [.int ((0 : Int32))] rfl ?_
      refine G.if_eq 25 (tbd tv_X12_count rfl) (by decide) (fun c20 => ?_) (fun c20 => absurd (by decide) c20)
      refine G.go tv_X12_count 2 28 [(0, .ref (gAd E (56))), (1, .int (x))] [.int ((6 : Int32)), .int (x)] rfl ?_
      refine G.cmp_lt 37 (tbd tv_X12_count rfl) (by decide) (fun c28 => ?_) (fun c28 => ?_)
      · skip
        refine G.go tv_X12_count 1 38 [(0, .ref (gAd E (56))), (1, .int (x))] [.ref (gAd E (56))] rfl ?_
        refine G.rg ra2 hE 21 (.int (rS (setS (R) 0 0) 21)) (by decide) rfl (tbd tv_X12_count rfl) w_2086 ?_
        refine G.if_eq 52 (tbd tv_X12_count rfl) (by decide) (fun c41 => ?_) (fun c41 => absurd (hm) c41)
        refine G.go tv_X12_count 1 53 [(0, .ref (gAd E (56))), (1, .int (x))] [.int ((0 : Int32))] rfl ?_
        exact G.iret rfl rfl (Or.inr ⟨c2, c8, by rw [rCnt_out (by first | exact Or.inl c28 | exact Or.inr (Int32.not_le.mp c34))], ra2, fa2⟩) (tbd tv_X12_count rfl)
      · skip
        refine G.go tv_X12_count 2 34 [(0, .ref (gAd E (56))), (1, .int (x))] [.int ((14 : Int32)), .int (x)] rfl ?_
        refine G.cmp_le 54 (tbd tv_X12_count rfl) (by decide) (fun c34 => ?_) (fun c34 => ?_)
        · skip
          refine G.go tv_X12_count 1 55 [(0, .ref (gAd E (56))), (1, .int (x))] [.int (x)] rfl ?_
          rcases (rcnt_cases c28 c34) with rfl | rfl | rfl | rfl | rfl | rfl | rfl | rfl | rfl
          · skip
            refine G.tswI 100 (45) (tbd tv_X12_count rfl) (by decide) (by decide) (by decide) (by decide) ?_
            refine G.go tv_X12_count 1 101 [(0, .ref (gAd E (56))), (1, .int ((6 : Int32)))] [.ref (gAd E (56))] rfl ?_
            refine G.rg ra2 hE 18 (.int (rS (setS (R) 0 0) 18)) (by decide) rfl (tbd tv_X12_count rfl) w_2083 ?_
            exact G.iret rfl rfl (Or.inr ⟨by decide, by decide, rfl, ra2, fa2⟩) (tbd tv_X12_count rfl)
          · skip
            refine G.tswI 105 (50) (tbd tv_X12_count rfl) (by decide) (by decide) (by decide) (by decide) ?_
            refine G.go tv_X12_count 1 106 [(0, .ref (gAd E (56))), (1, .int ((7 : Int32)))] [.ref (gAd E (56))] rfl ?_
            refine G.rg ra2 hE 10 (.int (rS (setS (R) 0 0) 10)) (by decide) rfl (tbd tv_X12_count rfl) w_2075 ?_
            exact G.iret rfl rfl (Or.inr ⟨by decide, by decide, rfl, ra2, fa2⟩) (tbd tv_X12_count rfl)
          · skip
            refine G.tswI 110 (55) (tbd tv_X12_count rfl) (by decide) (by decide) (by decide) (by decide) ?_
            refine G.go tv_X12_count 1 111 [(0, .ref (gAd E (56))), (1, .int ((8 : Int32)))] [.ref (gAd E (56))] rfl ?_
            refine G.rg ra2 hE 13 (.int (rS (setS (R) 0 0) 13)) (by decide) rfl (tbd tv_X12_count rfl) w_2078 ?_
            exact G.iret rfl rfl (Or.inr ⟨by decide, by decide, rfl, ra2, fa2⟩) (tbd tv_X12_count rfl)
          · skip
            refine G.tswI 115 (60) (tbd tv_X12_count rfl) (by decide) (by decide) (by decide) (by decide) ?_
            refine G.go tv_X12_count 1 116 [(0, .ref (gAd E (56))), (1, .int ((9 : Int32)))] [.ref (gAd E (56))] rfl ?_
            refine G.rg ra2 hE 14 (.int (rS (setS (R) 0 0) 14)) (by decide) rfl (tbd tv_X12_count rfl) w_2079 ?_
            exact G.iret rfl rfl (Or.inr ⟨by decide, by decide, rfl, ra2, fa2⟩) (tbd tv_X12_count rfl)
          · skip
            refine G.tswI 120 (65) (tbd tv_X12_count rfl) (by decide) (by decide) (by decide) (by decide) ?_
            refine G.go tv_X12_count 1 121 [(0, .ref (gAd E (56))), (1, .int ((10 : Int32)))] [.ref (gAd E (56))] rfl ?_
            refine G.rg ra2 hE 12 (.int (rS (setS (R) 0 0) 12)) (by decide) rfl (tbd tv_X12_count rfl) w_2077 ?_
            exact G.iret rfl rfl (Or.inr ⟨by decide, by decide, rfl, ra2, fa2⟩) (tbd tv_X12_count rfl)
          · skip
            refine G.tswI 125 (70) (tbd tv_X12_count rfl) (by decide) (by decide) (by decide) (by decide) ?_
            refine G.go tv_X12_count 1 126 [(0, .ref (gAd E (56))), (1, .int ((11 : Int32)))] [.ref (gAd E (56))] rfl ?_
            refine G.rg ra2 hE 20 (.int (rS (setS (R) 0 0) 20)) (by decide) rfl (tbd tv_X12_count rfl) w_2085 ?_
            exact G.iret rfl rfl (Or.inr ⟨by decide, by decide, rfl, ra2, fa2⟩) (tbd tv_X12_count rfl)
          · skip
            refine G.tswI 130 (75) (tbd tv_X12_count rfl) (by decide) (by decide) (by decide) (by decide) ?_
            refine G.go tv_X12_count 1 131 [(0, .ref (gAd E (56))), (1, .int ((12 : Int32)))] [.ref (gAd E (56))] rfl ?_
            refine G.rg ra2 hE 5 (.int (rS (setS (R) 0 0) 5)) (by decide) rfl (tbd tv_X12_count rfl) w_2070 ?_
            exact G.iret rfl rfl (Or.inr ⟨by decide, by decide, rfl, ra2, fa2⟩) (tbd tv_X12_count rfl)
          · skip
            refine G.tswI 135 (80) (tbd tv_X12_count rfl) (by decide) (by decide) (by decide) (by decide) ?_
            refine G.go tv_X12_count 1 136 [(0, .ref (gAd E (56))), (1, .int ((13 : Int32)))] [.ref (gAd E (56))] rfl ?_
            refine G.rg ra2 hE 21 (.int (rS (setS (R) 0 0) 21)) (by decide) rfl (tbd tv_X12_count rfl) w_2086 ?_
            refine G.if_eq 146 (tbd tv_X12_count rfl) (by decide) (fun c139 => ?_) (fun c139 => absurd (hm) c139)
            refine G.go tv_X12_count 1 147 [(0, .ref (gAd E (56))), (1, .int ((13 : Int32)))] [.int ((0 : Int32))] rfl ?_
            exact G.iret rfl rfl (Or.inr ⟨by decide, by decide, rfl, ra2, fa2⟩) (tbd tv_X12_count rfl)
          · skip
            refine G.tswO 148 (tbd tv_X12_count rfl) (by decide) (by decide) ?_
            refine G.go tv_X12_count 1 149 [(0, .ref (gAd E (56))), (1, .int ((14 : Int32)))] [.ref (gAd E (56))] rfl ?_
            refine G.rg ra2 hE 11 (.int (rS (setS (R) 0 0) 11)) (by decide) rfl (tbd tv_X12_count rfl) w_2076 ?_
            refine G.if_eq 159 (tbd tv_X12_count rfl) (by decide) (fun c152 => ?_) (fun c152 => ?_)
            · skip
              refine G.go tv_X12_count 1 160 [(0, .ref (gAd E (56))), (1, .int ((14 : Int32)))] [.int ((0 : Int32))] rfl ?_
              exact G.iret rfl rfl (Or.inr ⟨by decide, by decide, by show _ = some (Value.int (if rS R 11 = 0 then 0 else 1)); first | rw [if_pos (show rS R 11 = 0 from c152)] | rw [if_neg (show ¬ rS R 11 = 0 from c152)], ra2, fa2⟩) (tbd tv_X12_count rfl)
            · skip
              refine G.go tv_X12_count 2 160 [(0, .ref (gAd E (56))), (1, .int ((14 : Int32)))] [.int ((1 : Int32))] rfl ?_
              exact G.iret rfl rfl (Or.inr ⟨by decide, by decide, by show _ = some (Value.int (if rS R 11 = 0 then 0 else 1)); first | rw [if_pos (show rS R 11 = 0 from c152)] | rw [if_neg (show ¬ rS R 11 = 0 from c152)], ra2, fa2⟩) (tbd tv_X12_count rfl)
        · skip
          refine G.go tv_X12_count 1 38 [(0, .ref (gAd E (56))), (1, .int (x))] [.ref (gAd E (56))] rfl ?_
          refine G.rg ra2 hE 21 (.int (rS (setS (R) 0 0) 21)) (by decide) rfl (tbd tv_X12_count rfl) w_2086 ?_
          refine G.if_eq 52 (tbd tv_X12_count rfl) (by decide) (fun c41 => ?_) (fun c41 => absurd (hm) c41)
          refine G.go tv_X12_count 1 53 [(0, .ref (gAd E (56))), (1, .int (x))] [.int ((0 : Int32))] rfl ?_
          exact G.iret rfl rfl (Or.inr ⟨c2, c8, by rw [rCnt_out (by first | exact Or.inl c28 | exact Or.inr (Int32.not_le.mp c34))], ra2, fa2⟩) (tbd tv_X12_count rfl)
    · skip
      refine G.go tv_X12_count 3 17 [(0, .ref (gAd E (56))), (1, .int (x))] [.int ((1 : Int32)), .int ((1 : Int32)), .ref (gAd E (56))] rfl ?_
      refine G.callV (56) [.int ((1 : Int32)), .int ((1 : Int32))] [] (c_X12_refuse E _ (R) hE r ((1 : Int32)) ((1 : Int32)) (Or.inr rfl)) cls_X12 (by omega) (r.o) cw_X12_385 w_2268 w_53 (Nat.le_of_ble_eq_true rfl) rfl (Nat.le_of_ble_eq_true rfl) (tbd tv_X12_count rfl) (fun v3 f3 q3 => ?_) (fun _ _ h => h.elim)
      obtain ⟨rfl, ra3, fa3⟩ := q3
      refine G.eqs [.int ((1 : Int32))] rfl ?_
      refine G.if_eq 25 (tbd tv_X12_count rfl) (by decide) (fun c20 => absurd c20 (by decide)) (fun c20 => ?_)
      refine G.go tv_X12_count 1 24 [(0, .ref (gAd E (56))), (1, .int (x))] [.int ((0 : Int32))] rfl ?_
      exact G.iret rfl rfl (Or.inl ⟨by first | exact Or.inl c2 | exact Or.inr (Int32.not_le.mp c8), rfl, ra3, fa3⟩) (tbd tv_X12_count rfl)
def fdV (a b c d e : Int32) (j : Nat) : Int32 := if j < 4 then a else if j < 8 then b else if j < 12 then c else if j < 16 then d else e
def fdB (v : Int32) (j : Nat) : Int32 := ((v : Int32).toUInt32 >>> (((24 : Int32) - (8 : Int32) * nI (j % 4)).toUInt32 &&& Int32.toUInt32 31)).toInt32.toInt8.toInt32
def fdT (tp : Nat → Int32) (fd : Nat) (a b c d e : Int32) : Nat → Nat → Int32
  | 0 => tp
  | j + 1 => upd (fdT tp fd a b c d e j) (fd + j) (vp_nar .byte (fdB (fdV a b c d e j) j))
def tb_X12_feed : List (Nat × Instr × Nat) := [(0, .aload_n 0, 1), (1, .iconst 0, 1), (2, .putfield 147, 3), (5, .aload_n 0, 1), (6, .getfield 150, 3), (9, .bipush 20, 2), (11, .iadd, 1), (12, .sipush 1024, 3), (15, .if_icmp .le 5, 3), (18, .iconst (-1), 1), (19, .ireturn, 1), (20, .iconst 0, 1), (21, .istore 6, 2), (23, .iload 6, 2), (25, .bipush 20, 2), (27, .if_icmp .ge 90, 3), (30, .iload 6, 2), (32, .iconst 4, 1), (33, .if_icmp .ge 7, 3), (36, .iload_n 1, 1), (37, .goto 39, 3), (40, .iload 6, 2), (42, .bipush 8, 2), (44, .if_icmp .ge 7, 3), (47, .iload_n 2, 1), (48, .goto 28, 3), (51, .iload 6, 2), (53, .bipush 12, 2), (55, .if_icmp .ge 7, 3), (58, .iload_n 3, 1), (59, .goto 17, 3), (62, .iload 6, 2), (64, .bipush 16, 2), (66, .if_icmp .ge 8, 3), (69, .iload 4, 2), (71, .goto 5, 3), (74, .iload 5, 2), (76, .istore 7, 2), (78, .aload_n 0, 1), (79, .getfield 7, 3), (82, .aload_n 0, 1), (83, .getfield 150, 3), (86, .iload 7, 2), (88, .bipush 24, 2), (90, .bipush 8, 2), (92, .iload 6, 2), (94, .iconst 4, 1), (95, .irem, 1), (96, .imul, 1), (97, .isub, 1), (98, .iushr, 1), (99, .i2b, 1), (100, .bastore, 1), (101, .aload_n 0, 1), (102, .dup, 1), (103, .getfield 150, 3), (106, .iconst 1, 1), (107, .iadd, 1), (108, .putfield 150, 3), (111, .iinc 6 1, 3), (114, .goto (-91), 3), (117, .aload_n 0, 1), (118, .getfield 150, 3), (121, .ireturn, 1)]
theorem tv_X12_feed : Tv cX12_feed tb_X12_feed := by
  unfold Tv
  decide +kernel
theorem w_2069 : Cond.fieldLink "LedgerFilesModel" 7 "LedgerFilesModel" "tape" "[B" ∈ TB := tp_9 3 (by decide +kernel) rfl
set_option maxRecDepth 100000 in
set_option maxHeartbeats 4000000 in
theorem rfd_loop (E : gE) (f0 : Nat → va_E) (sz : Nat) (A : Nat → Prop) (Q : gQ) (hE : 94 ≤ gN E) (R : RfT) (fd : Nat) (hfd : rS R 5 = nI fd) (h20 : fd + 20 ≤ 1024) (a b c d e : Int32) (kq : ∀ g, RfV E g (setS (setA (setS R 0 0) 4 (fdT (rA R 4) fd a b c d e (20))) 5 (nI (fd + (20)))) → Fr RfK f0 g → G E (1, yX12_feed, 8, (some .int), sz, A) cX12_feed (gO E (1, yX12_feed, 8, (some .int), sz, A) Q) 117 [(0, .ref (gAd E (56))), (1, .int (a)), (2, .int (b)), (3, .int (c)), (4, .int (d)), (5, .int (e)), (6, .int (nI (20)))] [] g) : ∀ (d9 j : Nat), j + d9 = 20 → ∀ f, RfV E f (setS (setA (setS R 0 0) 4 (fdT (rA R 4) fd a b c d e (j))) 5 (nI (fd + (j)))) → Fr RfK f0 f → G E (1, yX12_feed, 8, (some .int), sz, A) cX12_feed (gO E (1, yX12_feed, 8, (some .int), sz, A) Q) 23 [(0, .ref (gAd E (56))), (1, .int (a)), (2, .int (b)), (3, .int (c)), (4, .int (d)), (5, .int (e)), (6, .int (nI (j)))] [] f := by
  intro d9
  induction d9 with
  | zero =>
    intro j e9 f r hf
    have e9 : j = 20 := e9
    refine G.go tv_X12_feed 2 27 [(0, .ref (gAd E (56))), (1, .int (a)), (2, .int (b)), (3, .int (c)), (4, .int (d)), (5, .int (e)), (6, .int (nI (j)))] [.int ((20 : Int32)), .int (nI (j))] rfl ?_
    refine G.cmp_ge 117 (tbd tv_X12_feed rfl) (by decide) (fun c27 => ?_) (fun c27 => absurd (by rw [e9]; exact (nI_le (Nat.le_refl _) (by omega) : nI 20 ≤ nI 20)) c27)
    refine G.eql [(0, .ref (gAd E (56))), (1, .int (a)), (2, .int (b)), (3, .int (c)), (4, .int (d)), (5, .int (e)), (6, .int (nI (20)))] (by rw [e9]) ?_
    exact kq _ (e9 ▸ r) (hf)
  | succ d9 ih =>
    intro j e9 f r hf
    refine G.go tv_X12_feed 2 27 [(0, .ref (gAd E (56))), (1, .int (a)), (2, .int (b)), (3, .int (c)), (4, .int (d)), (5, .int (e)), (6, .int (nI (j)))] [.int ((20 : Int32)), .int (nI (j))] rfl ?_
    refine G.cmp_ge 117 (tbd tv_X12_feed rfl) (by decide) (fun c27 => absurd c27 ((nI_ge (by omega) (by omega) : ¬ nI 20 ≤ nI j))) (fun c27 => ?_)
    refine G.go tv_X12_feed 2 33 [(0, .ref (gAd E (56))), (1, .int (a)), (2, .int (b)), (3, .int (c)), (4, .int (d)), (5, .int (e)), (6, .int (nI (j)))] [.int ((4 : Int32)), .int (nI (j))] rfl ?_
    refine G.cmp_ge 40 (tbd tv_X12_feed rfl) (by decide) (fun c33 => ?_) (fun c33 => ?_)
    · skip
      refine G.go tv_X12_feed 2 44 [(0, .ref (gAd E (56))), (1, .int (a)), (2, .int (b)), (3, .int (c)), (4, .int (d)), (5, .int (e)), (6, .int (nI (j)))] [.int ((8 : Int32)), .int (nI (j))] rfl ?_
      refine G.cmp_ge 51 (tbd tv_X12_feed rfl) (by decide) (fun c44 => ?_) (fun c44 => ?_)
      · skip
        refine G.go tv_X12_feed 2 55 [(0, .ref (gAd E (56))), (1, .int (a)), (2, .int (b)), (3, .int (c)), (4, .int (d)), (5, .int (e)), (6, .int (nI (j)))] [.int ((12 : Int32)), .int (nI (j))] rfl ?_
        refine G.cmp_ge 62 (tbd tv_X12_feed rfl) (by decide) (fun c55 => ?_) (fun c55 => ?_)
        · skip
          refine G.go tv_X12_feed 2 66 [(0, .ref (gAd E (56))), (1, .int (a)), (2, .int (b)), (3, .int (c)), (4, .int (d)), (5, .int (e)), (6, .int (nI (j)))] [.int ((16 : Int32)), .int (nI (j))] rfl ?_
          refine G.cmp_ge 74 (tbd tv_X12_feed rfl) (by decide) (fun c66 => ?_) (fun c66 => ?_)
          · skip
            refine G.go tv_X12_feed 3 79 [(0, .ref (gAd E (56))), (1, .int (a)), (2, .int (b)), (3, .int (c)), (4, .int (d)), (5, .int (e)), (6, .int (nI (j))), (7, .int (e))] [.ref (gAd E (56))] rfl ?_
            refine G.rg r hE 4 (.ref (gAd E (57))) (by decide) rfl (tbd tv_X12_feed rfl) w_2069 ?_
            refine G.go tv_X12_feed 1 83 [(0, .ref (gAd E (56))), (1, .int (a)), (2, .int (b)), (3, .int (c)), (4, .int (d)), (5, .int (e)), (6, .int (nI (j))), (7, .int (e))] [.ref (gAd E (56)), .ref (gAd E (57))] rfl ?_
            refine G.rg r hE 5 (.int (nI (fd + j))) (by decide) rfl (tbd tv_X12_feed rfl) w_2070 ?_
            refine G.go tv_X12_feed 5 95 [(0, .ref (gAd E (56))), (1, .int (a)), (2, .int (b)), (3, .int (c)), (4, .int (d)), (5, .int (e)), (6, .int (nI (j))), (7, .int (e))] [.int ((4 : Int32)), .int (nI (j)), .int ((8 : Int32)), .int ((24 : Int32)), .int (e), .int (nI (fd + j)), .ref (gAd E (57))] rfl ?_
            refine G.irem (by decide) (tbd tv_X12_feed rfl) ?_
            refine G.eqs [.int (nI (j % 4)), .int ((8 : Int32)), .int ((24 : Int32)), .int (e), .int (nI (fd + j)), .ref (gAd E (57))] (by rw [show (4 : Int32) = nI 4 from rfl, pk_rem (by omega) (by omega) (by omega)]) ?_
            refine G.go tv_X12_feed 4 100 [(0, .ref (gAd E (56))), (1, .int (a)), (2, .int (b)), (3, .int (c)), (4, .int (d)), (5, .int (e)), (6, .int (nI (j))), (7, .int (e))] [.int ((((e : Int32).toUInt32 >>> ((((24 : Int32)) - (((8 : Int32)) * (nI (j % 4))) : Int32).toUInt32 &&& Int32.toUInt32 31)).toInt32 : Int32).toInt8.toInt32), .int (nI (fd + j)), .ref (gAd E (57))] rfl ?_
            refine G.raB (fd + j) hE ⟨by decide, by decide⟩ r.a4 (r.p4 _) (by omega) (by decide) (tbd tv_X12_feed rfl) (fun u1 r1 h1 => ?_)
            refine G.go tv_X12_feed 2 103 [(0, .ref (gAd E (56))), (1, .int (a)), (2, .int (b)), (3, .int (c)), (4, .int (d)), (5, .int (e)), (6, .int (nI (j))), (7, .int (e))] [.ref (gAd E (56)), .ref (gAd E (56))] rfl ?_
            refine G.rg r1 hE 5 (.int (nI (fd + j))) (by decide) rfl (tbd tv_X12_feed rfl) w_2070 ?_
            refine G.go tv_X12_feed 2 108 [(0, .ref (gAd E (56))), (1, .int (a)), (2, .int (b)), (3, .int (c)), (4, .int (d)), (5, .int (e)), (6, .int (nI (j))), (7, .int (e))] [.int ((nI (fd + j)) + ((1 : Int32))), .ref (gAd E (56))] rfl ?_
            refine G.eqs [.int (nI (fd + (j + 1))), .ref (gAd E (56))] (by rw [nI_1]; rfl) ?_
            refine G.rp r1 hE 5 (setS (setA (setS (setA (setS R 0 0) 4 (fdT (rA R 4) fd a b c d e (j))) 5 (nI (fd + (j)))) 4 (upd (fdT (rA R 4) fd a b c d e j) (fd + j) (vp_nar .byte ((((e : Int32).toUInt32 >>> ((((24 : Int32)) - (((8 : Int32)) * (nI (j % 4))) : Int32).toUInt32 &&& Int32.toUInt32 31)).toInt32 : Int32).toInt8.toInt32)))) 5 (nI (fd + (j + 1)))) rfl rfl (by decide) rfl rfl rfl (tbd tv_X12_feed rfl) w_2070 (fun u2 r2 h2 => ?_)
            refine G.go tv_X12_feed 2 23 [(0, .ref (gAd E (56))), (1, .int (a)), (2, .int (b)), (3, .int (c)), (4, .int (d)), (5, .int (e)), (6, .int (nI (j) + (1 : Int32))), (7, .int (e))] [] rfl ?_
            have hj4 : ¬ j < 4 := fun q => absurd c33 (nI_ge q (by omega) : ¬ nI 4 ≤ nI j)
            have hj8 : ¬ j < 8 := fun q => absurd c44 (nI_ge q (by omega) : ¬ nI 8 ≤ nI j)
            have hj12 : ¬ j < 12 := fun q => absurd c55 (nI_ge q (by omega) : ¬ nI 12 ≤ nI j)
            have hj16 : ¬ j < 16 := fun q => absurd c66 (nI_ge q (by omega) : ¬ nI 16 ≤ nI j)
            have hv : fdV a b c d e j = e := by unfold fdV; rw [if_neg hj4, if_neg hj8, if_neg hj12, if_neg hj16]
            refine G.less [(0, .ref (gAd E (56))), (1, .int (a)), (2, .int (b)), (3, .int (c)), (4, .int (d)), (5, .int (e)), (6, .int (nI (j) + (1 : Int32)))] [0, 1, 2, 3, 4, 5, 6] rfl ?_
            refine G.eql [(0, .ref (gAd E (56))), (1, .int (a)), (2, .int (b)), (3, .int (c)), (4, .int (d)), (5, .int (e)), (6, .int (nI (j + 1)))] (by rw [nI_1]) ?_
            have q : RfV E u2 (setS (setS (setA (setA (setS R 0 0) 4 (fdT (rA R 4) fd a b c d e j)) 4 (upd (fdT (rA R 4) fd a b c d e j) (fd + j) (vp_nar .byte (fdB (fdV a b c d e j) j)))) 5 (nI (fd + j))) 5 (nI (fd + (j + 1)))) := by rw [hv]; exact r2
            rw [setS_S, setA_A] at q
            exact ih (j + 1) (by omega) _ q (((hf).tr h1 (fun _ h => h)).tr h2 (fun _ h => h))
          · skip
            refine G.go tv_X12_feed 4 79 [(0, .ref (gAd E (56))), (1, .int (a)), (2, .int (b)), (3, .int (c)), (4, .int (d)), (5, .int (e)), (6, .int (nI (j))), (7, .int (d))] [.ref (gAd E (56))] rfl ?_
            refine G.rg r hE 4 (.ref (gAd E (57))) (by decide) rfl (tbd tv_X12_feed rfl) w_2069 ?_
            refine G.go tv_X12_feed 1 83 [(0, .ref (gAd E (56))), (1, .int (a)), (2, .int (b)), (3, .int (c)), (4, .int (d)), (5, .int (e)), (6, .int (nI (j))), (7, .int (d))] [.ref (gAd E (56)), .ref (gAd E (57))] rfl ?_
            refine G.rg r hE 5 (.int (nI (fd + j))) (by decide) rfl (tbd tv_X12_feed rfl) w_2070 ?_
            refine G.go tv_X12_feed 5 95 [(0, .ref (gAd E (56))), (1, .int (a)), (2, .int (b)), (3, .int (c)), (4, .int (d)), (5, .int (e)), (6, .int (nI (j))), (7, .int (d))] [.int ((4 : Int32)), .int (nI (j)), .int ((8 : Int32)), .int ((24 : Int32)), .int (d), .int (nI (fd + j)), .ref (gAd E (57))] rfl ?_
            refine G.irem (by decide) (tbd tv_X12_feed rfl) ?_
            refine G.eqs [.int (nI (j % 4)), .int ((8 : Int32)), .int ((24 : Int32)), .int (d), .int (nI (fd + j)), .ref (gAd E (57))] (by rw [show (4 : Int32) = nI 4 from rfl, pk_rem (by omega) (by omega) (by omega)]) ?_
            refine G.go tv_X12_feed 4 100 [(0, .ref (gAd E (56))), (1, .int (a)), (2, .int (b)), (3, .int (c)), (4, .int (d)), (5, .int (e)), (6, .int (nI (j))), (7, .int (d))] [.int ((((d : Int32).toUInt32 >>> ((((24 : Int32)) - (((8 : Int32)) * (nI (j % 4))) : Int32).toUInt32 &&& Int32.toUInt32 31)).toInt32 : Int32).toInt8.toInt32), .int (nI (fd + j)), .ref (gAd E (57))] rfl ?_
            refine G.raB (fd + j) hE ⟨by decide, by decide⟩ r.a4 (r.p4 _) (by omega) (by decide) (tbd tv_X12_feed rfl) (fun u3 r3 h3 => ?_)
            refine G.go tv_X12_feed 2 103 [(0, .ref (gAd E (56))), (1, .int (a)), (2, .int (b)), (3, .int (c)), (4, .int (d)), (5, .int (e)), (6, .int (nI (j))), (7, .int (d))] [.ref (gAd E (56)), .ref (gAd E (56))] rfl ?_
            refine G.rg r3 hE 5 (.int (nI (fd + j))) (by decide) rfl (tbd tv_X12_feed rfl) w_2070 ?_
            refine G.go tv_X12_feed 2 108 [(0, .ref (gAd E (56))), (1, .int (a)), (2, .int (b)), (3, .int (c)), (4, .int (d)), (5, .int (e)), (6, .int (nI (j))), (7, .int (d))] [.int ((nI (fd + j)) + ((1 : Int32))), .ref (gAd E (56))] rfl ?_
            refine G.eqs [.int (nI (fd + (j + 1))), .ref (gAd E (56))] (by rw [nI_1]; rfl) ?_
            refine G.rp r3 hE 5 (setS (setA (setS (setA (setS R 0 0) 4 (fdT (rA R 4) fd a b c d e (j))) 5 (nI (fd + (j)))) 4 (upd (fdT (rA R 4) fd a b c d e j) (fd + j) (vp_nar .byte ((((d : Int32).toUInt32 >>> ((((24 : Int32)) - (((8 : Int32)) * (nI (j % 4))) : Int32).toUInt32 &&& Int32.toUInt32 31)).toInt32 : Int32).toInt8.toInt32)))) 5 (nI (fd + (j + 1)))) rfl rfl (by decide) rfl rfl rfl (tbd tv_X12_feed rfl) w_2070 (fun u4 r4 h4 => ?_)
            refine G.go tv_X12_feed 2 23 [(0, .ref (gAd E (56))), (1, .int (a)), (2, .int (b)), (3, .int (c)), (4, .int (d)), (5, .int (e)), (6, .int (nI (j) + (1 : Int32))), (7, .int (d))] [] rfl ?_
            have hj4 : ¬ j < 4 := fun q => absurd c33 (nI_ge q (by omega) : ¬ nI 4 ≤ nI j)
            have hj8 : ¬ j < 8 := fun q => absurd c44 (nI_ge q (by omega) : ¬ nI 8 ≤ nI j)
            have hj12 : ¬ j < 12 := fun q => absurd c55 (nI_ge q (by omega) : ¬ nI 12 ≤ nI j)
            have hj16 : j < 16 := Nat.not_le.mp (fun q => c66 (nI_le q (by omega) : nI 16 ≤ nI j))
            have hv : fdV a b c d e j = d := by unfold fdV; rw [if_neg hj4, if_neg hj8, if_neg hj12, if_pos hj16]
            refine G.less [(0, .ref (gAd E (56))), (1, .int (a)), (2, .int (b)), (3, .int (c)), (4, .int (d)), (5, .int (e)), (6, .int (nI (j) + (1 : Int32)))] [0, 1, 2, 3, 4, 5, 6] rfl ?_
            refine G.eql [(0, .ref (gAd E (56))), (1, .int (a)), (2, .int (b)), (3, .int (c)), (4, .int (d)), (5, .int (e)), (6, .int (nI (j + 1)))] (by rw [nI_1]) ?_
            have q : RfV E u4 (setS (setS (setA (setA (setS R 0 0) 4 (fdT (rA R 4) fd a b c d e j)) 4 (upd (fdT (rA R 4) fd a b c d e j) (fd + j) (vp_nar .byte (fdB (fdV a b c d e j) j)))) 5 (nI (fd + j))) 5 (nI (fd + (j + 1)))) := by rw [hv]; exact r4
            rw [setS_S, setA_A] at q
            exact ih (j + 1) (by omega) _ q (((hf).tr h3 (fun _ h => h)).tr h4 (fun _ h => h))
        · skip
          refine G.go tv_X12_feed 4 79 [(0, .ref (gAd E (56))), (1, .int (a)), (2, .int (b)), (3, .int (c)), (4, .int (d)), (5, .int (e)), (6, .int (nI (j))), (7, .int (c))] [.ref (gAd E (56))] rfl ?_
          refine G.rg r hE 4 (.ref (gAd E (57))) (by decide) rfl (tbd tv_X12_feed rfl) w_2069 ?_
          refine G.go tv_X12_feed 1 83 [(0, .ref (gAd E (56))), (1, .int (a)), (2, .int (b)), (3, .int (c)), (4, .int (d)), (5, .int (e)), (6, .int (nI (j))), (7, .int (c))] [.ref (gAd E (56)), .ref (gAd E (57))] rfl ?_
          refine G.rg r hE 5 (.int (nI (fd + j))) (by decide) rfl (tbd tv_X12_feed rfl) w_2070 ?_
          refine G.go tv_X12_feed 5 95 [(0, .ref (gAd E (56))), (1, .int (a)), (2, .int (b)), (3, .int (c)), (4, .int (d)), (5, .int (e)), (6, .int (nI (j))), (7, .int (c))] [.int ((4 : Int32)), .int (nI (j)), .int ((8 : Int32)), .int ((24 : Int32)), .int (c), .int (nI (fd + j)), .ref (gAd E (57))] rfl ?_
          refine G.irem (by decide) (tbd tv_X12_feed rfl) ?_
          refine G.eqs [.int (nI (j % 4)), .int ((8 : Int32)), .int ((24 : Int32)), .int (c), .int (nI (fd + j)), .ref (gAd E (57))] (by rw [show (4 : Int32) = nI 4 from rfl, pk_rem (by omega) (by omega) (by omega)]) ?_
          refine G.go tv_X12_feed 4 100 [(0, .ref (gAd E (56))), (1, .int (a)), (2, .int (b)), (3, .int (c)), (4, .int (d)), (5, .int (e)), (6, .int (nI (j))), (7, .int (c))] [.int ((((c : Int32).toUInt32 >>> ((((24 : Int32)) - (((8 : Int32)) * (nI (j % 4))) : Int32).toUInt32 &&& Int32.toUInt32 31)).toInt32 : Int32).toInt8.toInt32), .int (nI (fd + j)), .ref (gAd E (57))] rfl ?_
          refine G.raB (fd + j) hE ⟨by decide, by decide⟩ r.a4 (r.p4 _) (by omega) (by decide) (tbd tv_X12_feed rfl) (fun u5 r5 h5 => ?_)
          refine G.go tv_X12_feed 2 103 [(0, .ref (gAd E (56))), (1, .int (a)), (2, .int (b)), (3, .int (c)), (4, .int (d)), (5, .int (e)), (6, .int (nI (j))), (7, .int (c))] [.ref (gAd E (56)), .ref (gAd E (56))] rfl ?_
          refine G.rg r5 hE 5 (.int (nI (fd + j))) (by decide) rfl (tbd tv_X12_feed rfl) w_2070 ?_
          refine G.go tv_X12_feed 2 108 [(0, .ref (gAd E (56))), (1, .int (a)), (2, .int (b)), (3, .int (c)), (4, .int (d)), (5, .int (e)), (6, .int (nI (j))), (7, .int (c))] [.int ((nI (fd + j)) + ((1 : Int32))), .ref (gAd E (56))] rfl ?_
          refine G.eqs [.int (nI (fd + (j + 1))), .ref (gAd E (56))] (by rw [nI_1]; rfl) ?_
          refine G.rp r5 hE 5 (setS (setA (setS (setA (setS R 0 0) 4 (fdT (rA R 4) fd a b c d e (j))) 5 (nI (fd + (j)))) 4 (upd (fdT (rA R 4) fd a b c d e j) (fd + j) (vp_nar .byte ((((c : Int32).toUInt32 >>> ((((24 : Int32)) - (((8 : Int32)) * (nI (j % 4))) : Int32).toUInt32 &&& Int32.toUInt32 31)).toInt32 : Int32).toInt8.toInt32)))) 5 (nI (fd + (j + 1)))) rfl rfl (by decide) rfl rfl rfl (tbd tv_X12_feed rfl) w_2070 (fun u6 r6 h6 => ?_)
          refine G.go tv_X12_feed 2 23 [(0, .ref (gAd E (56))), (1, .int (a)), (2, .int (b)), (3, .int (c)), (4, .int (d)), (5, .int (e)), (6, .int (nI (j) + (1 : Int32))), (7, .int (c))] [] rfl ?_
          have hj4 : ¬ j < 4 := fun q => absurd c33 (nI_ge q (by omega) : ¬ nI 4 ≤ nI j)
          have hj8 : ¬ j < 8 := fun q => absurd c44 (nI_ge q (by omega) : ¬ nI 8 ≤ nI j)
          have hj12 : j < 12 := Nat.not_le.mp (fun q => c55 (nI_le q (by omega) : nI 12 ≤ nI j))
          have hv : fdV a b c d e j = c := by unfold fdV; rw [if_neg hj4, if_neg hj8, if_pos hj12]
          refine G.less [(0, .ref (gAd E (56))), (1, .int (a)), (2, .int (b)), (3, .int (c)), (4, .int (d)), (5, .int (e)), (6, .int (nI (j) + (1 : Int32)))] [0, 1, 2, 3, 4, 5, 6] rfl ?_
          refine G.eql [(0, .ref (gAd E (56))), (1, .int (a)), (2, .int (b)), (3, .int (c)), (4, .int (d)), (5, .int (e)), (6, .int (nI (j + 1)))] (by rw [nI_1]) ?_
          have q : RfV E u6 (setS (setS (setA (setA (setS R 0 0) 4 (fdT (rA R 4) fd a b c d e j)) 4 (upd (fdT (rA R 4) fd a b c d e j) (fd + j) (vp_nar .byte (fdB (fdV a b c d e j) j)))) 5 (nI (fd + j))) 5 (nI (fd + (j + 1)))) := by rw [hv]; exact r6
          rw [setS_S, setA_A] at q
          exact ih (j + 1) (by omega) _ q (((hf).tr h5 (fun _ h => h)).tr h6 (fun _ h => h))
      · skip
        refine G.go tv_X12_feed 4 79 [(0, .ref (gAd E (56))), (1, .int (a)), (2, .int (b)), (3, .int (c)), (4, .int (d)), (5, .int (e)), (6, .int (nI (j))), (7, .int (b))] [.ref (gAd E (56))] rfl ?_
        refine G.rg r hE 4 (.ref (gAd E (57))) (by decide) rfl (tbd tv_X12_feed rfl) w_2069 ?_
        refine G.go tv_X12_feed 1 83 [(0, .ref (gAd E (56))), (1, .int (a)), (2, .int (b)), (3, .int (c)), (4, .int (d)), (5, .int (e)), (6, .int (nI (j))), (7, .int (b))] [.ref (gAd E (56)), .ref (gAd E (57))] rfl ?_
        refine G.rg r hE 5 (.int (nI (fd + j))) (by decide) rfl (tbd tv_X12_feed rfl) w_2070 ?_
        refine G.go tv_X12_feed 5 95 [(0, .ref (gAd E (56))), (1, .int (a)), (2, .int (b)), (3, .int (c)), (4, .int (d)), (5, .int (e)), (6, .int (nI (j))), (7, .int (b))] [.int ((4 : Int32)), .int (nI (j)), .int ((8 : Int32)), .int ((24 : Int32)), .int (b), .int (nI (fd + j)), .ref (gAd E (57))] rfl ?_
        refine G.irem (by decide) (tbd tv_X12_feed rfl) ?_
        refine G.eqs [.int (nI (j % 4)), .int ((8 : Int32)), .int ((24 : Int32)), .int (b), .int (nI (fd + j)), .ref (gAd E (57))] (by rw [show (4 : Int32) = nI 4 from rfl, pk_rem (by omega) (by omega) (by omega)]) ?_
        refine G.go tv_X12_feed 4 100 [(0, .ref (gAd E (56))), (1, .int (a)), (2, .int (b)), (3, .int (c)), (4, .int (d)), (5, .int (e)), (6, .int (nI (j))), (7, .int (b))] [.int ((((b : Int32).toUInt32 >>> ((((24 : Int32)) - (((8 : Int32)) * (nI (j % 4))) : Int32).toUInt32 &&& Int32.toUInt32 31)).toInt32 : Int32).toInt8.toInt32), .int (nI (fd + j)), .ref (gAd E (57))] rfl ?_
        refine G.raB (fd + j) hE ⟨by decide, by decide⟩ r.a4 (r.p4 _) (by omega) (by decide) (tbd tv_X12_feed rfl) (fun u7 r7 h7 => ?_)
        refine G.go tv_X12_feed 2 103 [(0, .ref (gAd E (56))), (1, .int (a)), (2, .int (b)), (3, .int (c)), (4, .int (d)), (5, .int (e)), (6, .int (nI (j))), (7, .int (b))] [.ref (gAd E (56)), .ref (gAd E (56))] rfl ?_
        refine G.rg r7 hE 5 (.int (nI (fd + j))) (by decide) rfl (tbd tv_X12_feed rfl) w_2070 ?_
        refine G.go tv_X12_feed 2 108 [(0, .ref (gAd E (56))), (1, .int (a)), (2, .int (b)), (3, .int (c)), (4, .int (d)), (5, .int (e)), (6, .int (nI (j))), (7, .int (b))] [.int ((nI (fd + j)) + ((1 : Int32))), .ref (gAd E (56))] rfl ?_
        refine G.eqs [.int (nI (fd + (j + 1))), .ref (gAd E (56))] (by rw [nI_1]; rfl) ?_
        refine G.rp r7 hE 5 (setS (setA (setS (setA (setS R 0 0) 4 (fdT (rA R 4) fd a b c d e (j))) 5 (nI (fd + (j)))) 4 (upd (fdT (rA R 4) fd a b c d e j) (fd + j) (vp_nar .byte ((((b : Int32).toUInt32 >>> ((((24 : Int32)) - (((8 : Int32)) * (nI (j % 4))) : Int32).toUInt32 &&& Int32.toUInt32 31)).toInt32 : Int32).toInt8.toInt32)))) 5 (nI (fd + (j + 1)))) rfl rfl (by decide) rfl rfl rfl (tbd tv_X12_feed rfl) w_2070 (fun u8 r8 h8 => ?_)
        refine G.go tv_X12_feed 2 23 [(0, .ref (gAd E (56))), (1, .int (a)), (2, .int (b)), (3, .int (c)), (4, .int (d)), (5, .int (e)), (6, .int (nI (j) + (1 : Int32))), (7, .int (b))] [] rfl ?_
        have hj4 : ¬ j < 4 := fun q => absurd c33 (nI_ge q (by omega) : ¬ nI 4 ≤ nI j)
        have hj8 : j < 8 := Nat.not_le.mp (fun q => c44 (nI_le q (by omega) : nI 8 ≤ nI j))
        have hv : fdV a b c d e j = b := by unfold fdV; rw [if_neg hj4, if_pos hj8]
        refine G.less [(0, .ref (gAd E (56))), (1, .int (a)), (2, .int (b)), (3, .int (c)), (4, .int (d)), (5, .int (e)), (6, .int (nI (j) + (1 : Int32)))] [0, 1, 2, 3, 4, 5, 6] rfl ?_
        refine G.eql [(0, .ref (gAd E (56))), (1, .int (a)), (2, .int (b)), (3, .int (c)), (4, .int (d)), (5, .int (e)), (6, .int (nI (j + 1)))] (by rw [nI_1]) ?_
        have q : RfV E u8 (setS (setS (setA (setA (setS R 0 0) 4 (fdT (rA R 4) fd a b c d e j)) 4 (upd (fdT (rA R 4) fd a b c d e j) (fd + j) (vp_nar .byte (fdB (fdV a b c d e j) j)))) 5 (nI (fd + j))) 5 (nI (fd + (j + 1)))) := by rw [hv]; exact r8
        rw [setS_S, setA_A] at q
        exact ih (j + 1) (by omega) _ q (((hf).tr h7 (fun _ h => h)).tr h8 (fun _ h => h))
    · skip
      refine G.go tv_X12_feed 4 79 [(0, .ref (gAd E (56))), (1, .int (a)), (2, .int (b)), (3, .int (c)), (4, .int (d)), (5, .int (e)), (6, .int (nI (j))), (7, .int (a))] [.ref (gAd E (56))] rfl ?_
      refine G.rg r hE 4 (.ref (gAd E (57))) (by decide) rfl (tbd tv_X12_feed rfl) w_2069 ?_
      refine G.go tv_X12_feed 1 83 [(0, .ref (gAd E (56))), (1, .int (a)), (2, .int (b)), (3, .int (c)), (4, .int (d)), (5, .int (e)), (6, .int (nI (j))), (7, .int (a))] [.ref (gAd E (56)), .ref (gAd E (57))] rfl ?_
      refine G.rg r hE 5 (.int (nI (fd + j))) (by decide) rfl (tbd tv_X12_feed rfl) w_2070 ?_
      refine G.go tv_X12_feed 5 95 [(0, .ref (gAd E (56))), (1, .int (a)), (2, .int (b)), (3, .int (c)), (4, .int (d)), (5, .int (e)), (6, .int (nI (j))), (7, .int (a))] [.int ((4 : Int32)), .int (nI (j)), .int ((8 : Int32)), .int ((24 : Int32)), .int (a), .int (nI (fd + j)), .ref (gAd E (57))] rfl ?_
      refine G.irem (by decide) (tbd tv_X12_feed rfl) ?_
      refine G.eqs [.int (nI (j % 4)), .int ((8 : Int32)), .int ((24 : Int32)), .int (a), .int (nI (fd + j)), .ref (gAd E (57))] (by rw [show (4 : Int32) = nI 4 from rfl, pk_rem (by omega) (by omega) (by omega)]) ?_
      refine G.go tv_X12_feed 4 100 [(0, .ref (gAd E (56))), (1, .int (a)), (2, .int (b)), (3, .int (c)), (4, .int (d)), (5, .int (e)), (6, .int (nI (j))), (7, .int (a))] [.int ((((a : Int32).toUInt32 >>> ((((24 : Int32)) - (((8 : Int32)) * (nI (j % 4))) : Int32).toUInt32 &&& Int32.toUInt32 31)).toInt32 : Int32).toInt8.toInt32), .int (nI (fd + j)), .ref (gAd E (57))] rfl ?_
      refine G.raB (fd + j) hE ⟨by decide, by decide⟩ r.a4 (r.p4 _) (by omega) (by decide) (tbd tv_X12_feed rfl) (fun u9 r9 h9 => ?_)
      refine G.go tv_X12_feed 2 103 [(0, .ref (gAd E (56))), (1, .int (a)), (2, .int (b)), (3, .int (c)), (4, .int (d)), (5, .int (e)), (6, .int (nI (j))), (7, .int (a))] [.ref (gAd E (56)), .ref (gAd E (56))] rfl ?_
      refine G.rg r9 hE 5 (.int (nI (fd + j))) (by decide) rfl (tbd tv_X12_feed rfl) w_2070 ?_
      refine G.go tv_X12_feed 2 108 [(0, .ref (gAd E (56))), (1, .int (a)), (2, .int (b)), (3, .int (c)), (4, .int (d)), (5, .int (e)), (6, .int (nI (j))), (7, .int (a))] [.int ((nI (fd + j)) + ((1 : Int32))), .ref (gAd E (56))] rfl ?_
      refine G.eqs [.int (nI (fd + (j + 1))), .ref (gAd E (56))] (by rw [nI_1]; rfl) ?_
      refine G.rp r9 hE 5 (setS (setA (setS (setA (setS R 0 0) 4 (fdT (rA R 4) fd a b c d e (j))) 5 (nI (fd + (j)))) 4 (upd (fdT (rA R 4) fd a b c d e j) (fd + j) (vp_nar .byte ((((a : Int32).toUInt32 >>> ((((24 : Int32)) - (((8 : Int32)) * (nI (j % 4))) : Int32).toUInt32 &&& Int32.toUInt32 31)).toInt32 : Int32).toInt8.toInt32)))) 5 (nI (fd + (j + 1)))) rfl rfl (by decide) rfl rfl rfl (tbd tv_X12_feed rfl) w_2070 (fun u10 r10 h10 => ?_)
      refine G.go tv_X12_feed 2 23 [(0, .ref (gAd E (56))), (1, .int (a)), (2, .int (b)), (3, .int (c)), (4, .int (d)), (5, .int (e)), (6, .int (nI (j) + (1 : Int32))), (7, .int (a))] [] rfl ?_
      have hj4 : j < 4 := Nat.not_le.mp (fun q => c33 (nI_le q (by omega) : nI 4 ≤ nI j))
      have hv : fdV a b c d e j = a := by unfold fdV; rw [if_pos hj4]
      refine G.less [(0, .ref (gAd E (56))), (1, .int (a)), (2, .int (b)), (3, .int (c)), (4, .int (d)), (5, .int (e)), (6, .int (nI (j) + (1 : Int32)))] [0, 1, 2, 3, 4, 5, 6] rfl ?_
      refine G.eql [(0, .ref (gAd E (56))), (1, .int (a)), (2, .int (b)), (3, .int (c)), (4, .int (d)), (5, .int (e)), (6, .int (nI (j + 1)))] (by rw [nI_1]) ?_
      have q : RfV E u10 (setS (setS (setA (setA (setS R 0 0) 4 (fdT (rA R 4) fd a b c d e j)) 4 (upd (fdT (rA R 4) fd a b c d e j) (fd + j) (vp_nar .byte (fdB (fdV a b c d e j) j)))) 5 (nI (fd + j))) 5 (nI (fd + (j + 1)))) := by rw [hv]; exact r10
      rw [setS_S, setA_A] at q
      exact ih (j + 1) (by omega) _ q (((hf).tr h9 (fun _ h => h)).tr h10 (fun _ h => h))
set_option maxRecDepth 100000 in
set_option maxHeartbeats 4000000 in
theorem c_X12_feed (E : gE) (f : Nat → va_E) (R : RfT) (fd : Nat) (hfd : rS R 5 = nI fd) (hle : fd ≤ 1024) (hE : 94 ≤ gN E) (r : RfV E f R) (a b c d e : Int32) : Ct E 1 yX12_feed cX12_feed 8 (some .int) [.ref (gAd E (56)), .int (a), .int (b), .int (c), .int (d), .int (e)] f (fun v g => (1024 < fd + 20 ∧ v = some (.int (-1)) ∧ RfV E g (setS R 0 0) ∧ Fr RfK f g) ∨ (fd + 20 ≤ 1024 ∧ v = some (.int (nI (fd + 20))) ∧ RfV E g (setS (setA (setS R 0 0) 4 (fdT (rA R 4) fd a b c d e (20))) 5 (nI (fd + (20)))) ∧ Fr RfK f g), fun _ _ => False) := by
  refine Ct.of (by decide) (Nat.le_of_ble_eq_true rfl) (fun sz => ?_)
  refine G.eql [(0, .ref (gAd E (56))), (1, .int (a)), (2, .int (b)), (3, .int (c)), (4, .int (d)), (5, .int (e))] rfl ?_
  refine G.go tv_X12_feed 2 2 [(0, .ref (gAd E (56))), (1, .int (a)), (2, .int (b)), (3, .int (c)), (4, .int (d)), (5, .int (e))] [.int ((0 : Int32)), .ref (gAd E (56))] rfl ?_
  refine G.rp r hE 0 (setS (R) 0 ((0 : Int32))) rfl rfl (by decide) rfl rfl rfl (tbd tv_X12_feed rfl) w_2065 (fun u11 r11 h11 => ?_)
  refine G.go tv_X12_feed 1 6 [(0, .ref (gAd E (56))), (1, .int (a)), (2, .int (b)), (3, .int (c)), (4, .int (d)), (5, .int (e))] [.ref (gAd E (56))] rfl ?_
  refine G.rg r11 hE 5 (.int (rS R 5)) (by decide) rfl (tbd tv_X12_feed rfl) w_2070 ?_
  refine G.go tv_X12_feed 3 15 [(0, .ref (gAd E (56))), (1, .int (a)), (2, .int (b)), (3, .int (c)), (4, .int (d)), (5, .int (e))] [.int ((1024 : Int32)), .int ((rS R 5) + ((20 : Int32)))] rfl ?_
  refine G.cmp_le 20 (tbd tv_X12_feed rfl) (by decide) (fun c15 => ?_) (fun c15 => ?_)
  · skip
    refine G.go tv_X12_feed 2 23 [(0, .ref (gAd E (56))), (1, .int (a)), (2, .int (b)), (3, .int (c)), (4, .int (d)), (5, .int (e)), (6, .int ((0 : Int32)))] [] rfl ?_
    have h20 : fd + 20 ≤ 1024 := by rw [hfd, show (20 : Int32) = nI 20 from rfl, nI_add, show (1024 : Int32) = nI 1024 from rfl] at c15; exact (nI_leI (by omega) (by omega)).mp c15
    refine rfd_loop E f _ _ _ hE R fd hfd h20 a b c d e ?_ 20 0 (by omega) _ (RfV.cast r11 (by show _ = setS (setA (setS R 0 0) 4 (rA (setS R 0 0) 4)) 5 (nI (fd + 0)); rw [setA_id]; exact (setS_id (by rw [Nat.add_zero]; exact hfd)).symm)) (h11)
    intro u0 r0 h0
    refine G.go tv_X12_feed 1 118 [(0, .ref (gAd E (56))), (1, .int (a)), (2, .int (b)), (3, .int (c)), (4, .int (d)), (5, .int (e)), (6, .int (nI (20)))] [.ref (gAd E (56))] rfl ?_
    refine G.rg r0 hE 5 (.int (nI (fd + 20))) (by decide) rfl (tbd tv_X12_feed rfl) w_2070 ?_
    exact G.iret rfl rfl (Or.inr ⟨h20, rfl, r0, h0⟩) (tbd tv_X12_feed rfl)
  · skip
    refine G.go tv_X12_feed 1 19 [(0, .ref (gAd E (56))), (1, .int (a)), (2, .int (b)), (3, .int (c)), (4, .int (d)), (5, .int (e))] [.int ((-1 : Int32))] rfl ?_
    exact G.iret rfl rfl (Or.inl ⟨by have : ¬ fd + 20 ≤ 1024 := fun q => c15 (by rw [hfd, show (20 : Int32) = nI 20 from rfl, nI_add]; exact (nI_le q (by omega) : nI (fd + 20) ≤ nI 1024)); omega, rfl, r11, h11⟩) (tbd tv_X12_feed rfl)
