def tb_X12_thrown : List (Nat × Instr × Nat) := [(0, .aload_n 0, 1), (1, .getfield 147, 3), (4, .ireturn, 1)]
theorem tv_X12_thrown : Tv cX12_thrown tb_X12_thrown := by
  unfold Tv
  decide +kernel
theorem w_2065 : Cond.fieldLink "LedgerFilesModel" 147 "LedgerFilesModel" "thrown" "I" ∈ TB := tp_8 239 (by decide +kernel) rfl
set_option maxRecDepth 100000 in
set_option maxHeartbeats 4000000 in
theorem c_X12_thrown (E : gE) (f : Nat → va_E) (R : RfT) (hE : 94 ≤ gN E) (r : RfV E f R) : Ct E 1 yX12_thrown cX12_thrown 1 (some .int) [.ref (gAd E (56))] f (fun v g => v = some (.int (rS R 0)) ∧ RfV E g (R) ∧ Fr RfK f g, fun _ _ => False) := by
  refine Ct.of (by decide) (Nat.le_of_ble_eq_true rfl) (fun sz => ?_)
  refine G.eql [(0, .ref (gAd E (56)))] rfl ?_
  refine G.go tv_X12_thrown 1 1 [(0, .ref (gAd E (56)))] [.ref (gAd E (56))] rfl ?_
  refine G.rg r hE 0 (.int (rS R 0)) (by decide) rfl (tbd tv_X12_thrown rfl) w_2065 ?_
  exact G.iret rfl rfl (⟨rfl, r, Fr.rf⟩) (tbd tv_X12_thrown rfl)
def tb_X12_useTape : List (Nat × Instr × Nat) := [(0, .aload_n 0, 1), (1, .getfield 150, 3), (4, .istore_n 1, 1), (5, .aload_n 0, 1), (6, .iconst 0, 1), (7, .putfield 150, 3), (10, .iload_n 1, 1), (11, .ireturn, 1)]
theorem tv_X12_useTape : Tv cX12_useTape tb_X12_useTape := by
  unfold Tv
  decide +kernel
theorem w_2070 : Cond.fieldLink "LedgerFilesModel" 150 "LedgerFilesModel" "taped" "I" ∈ TB := tp_9 4 (by decide +kernel) rfl
set_option maxRecDepth 100000 in
set_option maxHeartbeats 4000000 in
theorem c_X12_useTape (E : gE) (f : Nat → va_E) (R : RfT) (hE : 94 ≤ gN E) (r : RfV E f R) : Ct E 1 yX12_useTape cX12_useTape 2 (some .int) [.ref (gAd E (56))] f (fun v g => v = some (.int (rS R 5)) ∧ RfV E g (setS R 5 0) ∧ Fr RfK f g, fun _ _ => False) := by
  refine Ct.of (by decide) (Nat.le_of_ble_eq_true rfl) (fun sz => ?_)
  refine G.eql [(0, .ref (gAd E (56)))] rfl ?_
  refine G.go tv_X12_useTape 1 1 [(0, .ref (gAd E (56)))] [.ref (gAd E (56))] rfl ?_
  refine G.rg r hE 5 (.int (rS R 5)) (by decide) rfl (tbd tv_X12_useTape rfl) w_2070 ?_
  refine G.go tv_X12_useTape 3 7 [(0, .ref (gAd E (56))), (1, .int (rS R 5))] [.int ((0 : Int32)), .ref (gAd E (56))] rfl ?_
  refine G.rp r hE 5 (setS (R) 5 ((0 : Int32))) rfl rfl (by decide) rfl rfl rfl (tbd tv_X12_useTape rfl) w_2070 (fun u1 r1 h1 => ?_)
  refine G.go tv_X12_useTape 1 11 [(0, .ref (gAd E (56))), (1, .int (rS R 5))] [.int (rS R 5)] rfl ?_
  exact G.iret rfl rfl (⟨rfl, r1, h1⟩) (tbd tv_X12_useTape rfl)
def tb_X12_refuse : List (Nat × Instr × Nat) := [(0, .aload_n 0, 1), (1, .iload_n 1, 1), (2, .ifCond .eq 7, 3), (5, .iload_n 2, 1), (6, .goto 4, 3), (9, .iconst 0, 1), (10, .putfield 147, 3), (13, .iload_n 1, 1), (14, .ireturn, 1)]
theorem tv_X12_refuse : Tv cX12_refuse tb_X12_refuse := by
  unfold Tv
  decide +kernel
set_option maxRecDepth 100000 in
set_option maxHeartbeats 4000000 in
theorem c_X12_refuse (E : gE) (f : Nat → va_E) (R : RfT) (hE : 94 ≤ gN E) (r : RfV E f R) (b q : Int32) (hb : b = 0 ∨ b = 1) : Ct E 1 yX12_refuse cX12_refuse 3 (some .boolean) [.ref (gAd E (56)), .int (b), .int (q)] f (fun v g => v = some (.int b) ∧ RfV E g (setS R 0 (if b = 0 then 0 else q)) ∧ Fr RfK f g, fun _ _ => False) := by
  refine Ct.of (by decide) (Nat.le_of_ble_eq_true rfl) (fun sz => ?_)
  refine G.eql [(0, .ref (gAd E (56))), (1, .int (b)), (2, .int (q))] rfl ?_
  refine G.go tv_X12_refuse 2 2 [(0, .ref (gAd E (56))), (1, .int (b)), (2, .int (q))] [.int (b), .ref (gAd E (56))] rfl ?_
  refine G.if_eq 9 (tbd tv_X12_refuse rfl) (by decide) (fun c2 => ?_) (fun c2 => ?_)
  · skip
    refine G.go tv_X12_refuse 1 10 [(0, .ref (gAd E (56))), (1, .int (b)), (2, .int (q))] [.int ((0 : Int32)), .ref (gAd E (56))] rfl ?_
    refine G.rp r hE 0 (setS (R) 0 ((0 : Int32))) rfl rfl (by decide) rfl rfl rfl (tbd tv_X12_refuse rfl) w_2065 (fun u2 r2 h2 => ?_)
    refine G.go tv_X12_refuse 1 14 [(0, .ref (gAd E (56))), (1, .int (b)), (2, .int (q))] [.int (b)] rfl ?_
    exact G.iret rfl (by rcases hb with rfl | rfl <;> rfl) (⟨rfl, (by rw [if_pos c2]; exact r2), h2⟩) (tbd tv_X12_refuse rfl)
  · skip
    refine G.go tv_X12_refuse 2 10 [(0, .ref (gAd E (56))), (1, .int (b)), (2, .int (q))] [.int (q), .ref (gAd E (56))] rfl ?_
    refine G.rp r hE 0 (setS (R) 0 (q)) rfl rfl (by decide) rfl rfl rfl (tbd tv_X12_refuse rfl) w_2065 (fun u3 r3 h3 => ?_)
    refine G.go tv_X12_refuse 1 14 [(0, .ref (gAd E (56))), (1, .int (b)), (2, .int (q))] [.int (b)] rfl ?_
    exact G.iret rfl (by rcases hb with rfl | rfl <;> rfl) (⟨rfl, (by rw [if_neg c2]; exact r3), h3⟩) (tbd tv_X12_refuse rfl)
def tb_X12_answer : List (Nat × Instr × Nat) := [(0, .aload_n 0, 1), (1, .aload_n 0, 1), (2, .getfield 25, 3), (5, .ifCond .eq 7, 3), (8, .iconst 0, 1), (9, .goto 4, 3), (12, .iconst 2, 1), (13, .putfield 147, 3), (16, .aload_n 0, 1), (17, .getfield 25, 3), (20, .ifCond .eq 7, 3), (23, .iload_n 1, 1), (24, .goto 4, 3), (27, .iconst 0, 1), (28, .ireturn, 1)]
theorem tv_X12_answer : Tv cX12_answer tb_X12_answer := by
  unfold Tv
  decide +kernel
theorem w_2076 : Cond.fieldLink "LedgerFilesModel" 25 "LedgerFilesModel" "on" "Z" ∈ TB := tp_9 10 (by decide +kernel) rfl
set_option maxRecDepth 100000 in
set_option maxHeartbeats 4000000 in
theorem c_X12_answer (E : gE) (f : Nat → va_E) (R : RfT) (hE : 94 ≤ gN E) (r : RfV E f R) (x : Int32) : Ct E 1 yX12_answer cX12_answer 2 (some .int) [.ref (gAd E (56)), .int (x)] f (fun v g => v = some (.int (if rS R 11 = 0 then 0 else x)) ∧ RfV E g (setS R 0 (if rS R 11 = 0 then 2 else 0)) ∧ Fr RfK f g, fun _ _ => False) := by
  refine Ct.of (by decide) (Nat.le_of_ble_eq_true rfl) (fun sz => ?_)
  refine G.eql [(0, .ref (gAd E (56))), (1, .int (x))] rfl ?_
  refine G.go tv_X12_answer 2 2 [(0, .ref (gAd E (56))), (1, .int (x))] [.ref (gAd E (56)), .ref (gAd E (56))] rfl ?_
  refine G.rg r hE 11 (.int (rS R 11)) (by decide) rfl (tbd tv_X12_answer rfl) w_2076 ?_
  refine G.if_eq 12 (tbd tv_X12_answer rfl) (by decide) (fun c5 => ?_) (fun c5 => ?_)
  · skip
    refine G.go tv_X12_answer 1 13 [(0, .ref (gAd E (56))), (1, .int (x))] [.int ((2 : Int32)), .ref (gAd E (56))] rfl ?_
    refine G.rp r hE 0 (setS (R) 0 ((2 : Int32))) rfl rfl (by decide) rfl rfl rfl (tbd tv_X12_answer rfl) w_2065 (fun u4 r4 h4 => ?_)
    refine G.go tv_X12_answer 1 17 [(0, .ref (gAd E (56))), (1, .int (x))] [.ref (gAd E (56))] rfl ?_
    refine G.rg r4 hE 11 (.int (rS R 11)) (by decide) rfl (tbd tv_X12_answer rfl) w_2076 ?_
    refine G.if_eq 27 (tbd tv_X12_answer rfl) (by decide) (fun c20 => ?_) (fun c20 => absurd (c5) c20)
    refine G.go tv_X12_answer 1 28 [(0, .ref (gAd E (56))), (1, .int (x))] [.int ((0 : Int32))] rfl ?_
    exact G.iret rfl rfl (⟨(by rw [if_pos c5]), (by rw [if_pos c5]; exact r4), h4⟩) (tbd tv_X12_answer rfl)
  · skip
    refine G.go tv_X12_answer 2 13 [(0, .ref (gAd E (56))), (1, .int (x))] [.int ((0 : Int32)), .ref (gAd E (56))] rfl ?_
    refine G.rp r hE 0 (setS (R) 0 ((0 : Int32))) rfl rfl (by decide) rfl rfl rfl (tbd tv_X12_answer rfl) w_2065 (fun u5 r5 h5 => ?_)
    refine G.go tv_X12_answer 1 17 [(0, .ref (gAd E (56))), (1, .int (x))] [.ref (gAd E (56))] rfl ?_
    refine G.rg r5 hE 11 (.int (rS R 11)) (by decide) rfl (tbd tv_X12_answer rfl) w_2076 ?_
    refine G.if_eq 27 (tbd tv_X12_answer rfl) (by decide) (fun c20 => absurd c20 (c5)) (fun c20 => ?_)
    refine G.go tv_X12_answer 2 28 [(0, .ref (gAd E (56))), (1, .int (x))] [.int (x)] rfl ?_
    exact G.iret rfl rfl (⟨(by rw [if_neg c5]), (by rw [if_neg c5]; exact r5), h5⟩) (tbd tv_X12_answer rfl)
def tb_X12_back : List (Nat × Instr × Nat) := [(0, .aload_n 0, 1), (1, .iconst 0, 1), (2, .putfield 147, 3), (5, .iload_n 1, 1), (6, .ifCond .lt 11, 3), (9, .iload_n 1, 1), (10, .aload_n 0, 1), (11, .getfield 150, 3), (14, .if_icmp .le 5, 3), (17, .iconst (-1), 1), (18, .ireturn, 1), (19, .aload_n 0, 1), (20, .dup, 1), (21, .getfield 150, 3), (24, .iload_n 1, 1), (25, .isub, 1), (26, .putfield 150, 3), (29, .aload_n 0, 1), (30, .getfield 150, 3), (33, .ireturn, 1)]
theorem tv_X12_back : Tv cX12_back tb_X12_back := by
  unfold Tv
  decide +kernel
set_option maxRecDepth 100000 in
set_option maxHeartbeats 4000000 in
theorem c_X12_back (E : gE) (f : Nat → va_E) (R : RfT) (hE : 94 ≤ gN E) (r : RfV E f R) (fd : Nat) (hfd : rS R 5 = nI fd) (hle : fd ≤ 1024) (x : Int32) : Ct E 1 yX12_back cX12_back 2 (some .int) [.ref (gAd E (56)), .int (x)] f (fun v g => ((x < 0 ∨ nI fd < x) ∧ v = some (.int (-1)) ∧ RfV E g (setS R 0 0) ∧ Fr RfK f g) ∨ ∃ t, t ≤ fd ∧ x = nI t ∧ v = some (.int (nI (fd - t))) ∧ RfV E g (setS (setS R 0 0) 5 (nI (fd - t))) ∧ Fr RfK f g, fun _ _ => False) := by
  refine Ct.of (by decide) (Nat.le_of_ble_eq_true rfl) (fun sz => ?_)
  refine G.eql [(0, .ref (gAd E (56))), (1, .int (x))] rfl ?_
  refine G.go tv_X12_back 2 2 [(0, .ref (gAd E (56))), (1, .int (x))] [.int ((0 : Int32)), .ref (gAd E (56))] rfl ?_
  refine G.rp r hE 0 (setS (R) 0 ((0 : Int32))) rfl rfl (by decide) rfl rfl rfl (tbd tv_X12_back rfl) w_2065 (fun u6 r6 h6 => ?_)
  refine G.go tv_X12_back 1 6 [(0, .ref (gAd E (56))), (1, .int (x))] [.int (x)] rfl ?_
  refine G.if_lt 17 (tbd tv_X12_back rfl) (by decide) (fun c6 => ?_) (fun c6 => ?_)
  · skip
    refine G.go tv_X12_back 1 18 [(0, .ref (gAd E (56))), (1, .int (x))] [.int ((-1 : Int32))] rfl ?_
    exact G.iret rfl rfl (Or.inl ⟨Or.inl c6, rfl, r6, h6⟩) (tbd tv_X12_back rfl)
  · skip
    refine G.go tv_X12_back 2 11 [(0, .ref (gAd E (56))), (1, .int (x))] [.ref (gAd E (56)), .int (x)] rfl ?_
    refine G.rg r6 hE 5 (.int (rS R 5)) (by decide) rfl (tbd tv_X12_back rfl) w_2070 ?_
    refine G.cmp_le 19 (tbd tv_X12_back rfl) (by decide) (fun c14 => ?_) (fun c14 => ?_)
    · skip
      obtain ⟨t, ht31, hxt⟩ := nI_of c6
      have htf : t ≤ fd := by rw [hxt, hfd] at c14; exact (nI_leI (by omega) (by omega)).mp c14
      refine G.go tv_X12_back 2 21 [(0, .ref (gAd E (56))), (1, .int (x))] [.ref (gAd E (56)), .ref (gAd E (56))] rfl ?_
      refine G.rg r6 hE 5 (.int (rS R 5)) (by decide) rfl (tbd tv_X12_back rfl) w_2070 ?_
      refine G.go tv_X12_back 2 26 [(0, .ref (gAd E (56))), (1, .int (x))] [.int ((rS R 5) - (x)), .ref (gAd E (56))] rfl ?_
      refine G.eqs [.int (nI (fd - t)), .ref (gAd E (56))] (by rw [hfd, hxt, pk_sub htf]) ?_
      refine G.rp r6 hE 5 (setS (setS (R) 0 ((0 : Int32))) 5 (nI (fd - t))) rfl rfl (by decide) rfl rfl rfl (tbd tv_X12_back rfl) w_2070 (fun u7 r7 h7 => ?_)
      refine G.go tv_X12_back 1 30 [(0, .ref (gAd E (56))), (1, .int (x))] [.ref (gAd E (56))] rfl ?_
      refine G.rg r7 hE 5 (.int (nI (fd - t))) (by decide) rfl (tbd tv_X12_back rfl) w_2070 ?_
      exact G.iret rfl rfl (Or.inr ⟨t, htf, hxt, rfl, r7, (h6).tr h7 (fun _ h => h)⟩) (tbd tv_X12_back rfl)
    · skip
      refine G.go tv_X12_back 1 18 [(0, .ref (gAd E (56))), (1, .int (x))] [.int ((-1 : Int32))] rfl ?_
      exact G.iret rfl rfl (Or.inl ⟨Or.inr (by rw [← hfd]; exact Int32.not_le.mp c14), rfl, r6, h6⟩) (tbd tv_X12_back rfl)
def tb_X12_nowhere : List (Nat × Instr × Nat) := [(0, .iconst 0, 1), (1, .istore_n 1, 1), (2, .iload_n 1, 1), (3, .sipush 1024, 3), (6, .if_icmp .ge 13, 3), (9, .aload_n 0, 1), (10, .iload_n 1, 1), (11, .iconst (-1), 1), (12, .iastore, 1), (13, .iinc 1 1, 3), (16, .goto (-14), 3), (19, .return_, 1)]
theorem tv_X12_nowhere : Tv cX12_nowhere tb_X12_nowhere := by
  unfold Tv
  decide +kernel
set_option maxRecDepth 100000 in
set_option maxHeartbeats 4000000 in
theorem nw_loop (E : gE) (f : Nat → va_E) (sz : Nat) (A : Nat → Prop) (Q : gQ) (k : Nat) (g : Nat → Int32) (hk : k < gN E) (hq : Q.1 none (va_up f k (oI (gDA E) 1024 (flt g 0 (1024) (-1))))) : ∀ (d j : Nat), j + d = 1024 → G E (1, yX12_nowhere, 2, none, sz, A) cX12_nowhere (gO E (1, yX12_nowhere, 2, none, sz, A) Q) 2 [(0, .ref (gAd E (k))), (1, .int (nI (j)))] [] (va_up f k (oI (gDA E) 1024 (flt g 0 (j) (-1)))) := by
  intro d
  induction d with
  | zero =>
    intro j e
    have e : j = 1024 := e
    have hq : Q.1 none (va_up f k (oI (gDA E) 1024 (flt g 0 (j) (-1)))) := by rw [e]; exact hq
    refine G.go tv_X12_nowhere 2 6 [(0, .ref (gAd E (k))), (1, .int (nI (j)))] [.int ((1024 : Int32)), .int (nI (j))] rfl ?_
    refine G.cmp_ge 19 (tbd tv_X12_nowhere rfl) (by decide) (fun c6 => ?_) (fun c6 => absurd (by rw [e]; exact (nI_le (Nat.le_refl _) (by omega) : nI 1024 ≤ nI 1024)) c6)
    exact G.vret rfl hq (tbd tv_X12_nowhere rfl)
  | succ d ih =>
    intro j e
    refine G.go tv_X12_nowhere 2 6 [(0, .ref (gAd E (k))), (1, .int (nI (j)))] [.int ((1024 : Int32)), .int (nI (j))] rfl ?_
    refine G.cmp_ge 19 (tbd tv_X12_nowhere rfl) (by decide) (fun c6 => absurd c6 ((nI_ge (by omega) (by omega) : ¬ nI 1024 ≤ nI j))) (fun c6 => ?_)
    refine G.go tv_X12_nowhere 3 12 [(0, .ref (gAd E (k))), (1, .int (nI (j)))] [.int ((-1 : Int32)), .int (nI (j)), .ref (gAd E (k))] rfl ?_
    refine G.iastN (k) (j) hk (up_e) (by omega) (by decide) (tbd tv_X12_nowhere rfl) ?_
    refine G.go tv_X12_nowhere 2 2 [(0, .ref (gAd E (k))), (1, .int (nI (j) + (1 : Int32)))] [] rfl ?_
    refine G.eql [(0, .ref (gAd E (k))), (1, .int (nI (j + 1)))] (by rw [nI_1]) ?_
    refine G.eqf (va_up f k (oI (gDA E) 1024 (flt g 0 (j + 1) (-1)))) (by rw [bx_uu, flt_s (Nat.zero_le j)]) ?_
    exact ih (j + 1) (by omega)
set_option maxRecDepth 100000 in
set_option maxHeartbeats 4000000 in
theorem c_X12_nowhere (E : gE) (f : Nat → va_E) (k : Nat) (g : Nat → Int32) (hk : k < gN E) (he : f k = oI (gDA E) 1024 g) : Ct E 1 yX12_nowhere cX12_nowhere 2 none [.ref (gAd E (k))] f (fun v h => v = none ∧ (va_up f k (oI (gDA E) 1024 (flt g 0 (1024) (-1)))) = h, fun _ _ => False) := by
  refine Ct.of (by decide) (Nat.le_of_ble_eq_true rfl) (fun sz => ?_)
  refine G.eql [(0, .ref (gAd E (k)))] rfl ?_
  refine G.go tv_X12_nowhere 2 2 [(0, .ref (gAd E (k))), (1, .int ((0 : Int32)))] [] rfl ?_
  refine G.eqf (va_up f k (oI (gDA E) 1024 (flt g 0 (0) (-1)))) (by rw [flt_0]; exact up_id he) ?_
  refine nw_loop E f _ _ _ k g hk ?_ 1024 0 (by omega)
  exact ⟨rfl, rfl⟩
/-- where the works were, is nothing -/
def nwA (wa wb : Nat → Int32) : Nat → Nat → Int32
  | 0 => wa
  | k + 1 => upd (nwA wa wb k) (wb k).toNatClampNeg (-1)
def rNoW (R : RfT) (n : Nat) : RfT := setS (setA R 36 (nwA (rA R 36) (rA R 30) n)) 33 0
def tb_X12_noWorks : List (Nat × Instr × Nat) := [(0, .iconst 0, 1), (1, .istore_n 1, 1), (2, .iload_n 1, 1), (3, .aload_n 0, 1), (4, .getfield 144, 3), (7, .if_icmp .ge 21, 3), (10, .aload_n 0, 1), (11, .getfield 71, 3), (14, .aload_n 0, 1), (15, .getfield 58, 3), (18, .iload_n 1, 1), (19, .iaload, 1), (20, .iconst (-1), 1), (21, .iastore, 1), (22, .iinc 1 1, 3), (25, .goto (-23), 3), (28, .aload_n 0, 1), (29, .iconst 0, 1), (30, .putfield 144, 3), (33, .return_, 1)]
theorem tv_X12_noWorks : Tv cX12_noWorks tb_X12_noWorks := by
  unfold Tv
  decide +kernel
theorem w_2098 : Cond.fieldLink "LedgerFilesModel" 144 "LedgerFilesModel" "works" "I" ∈ TB := tp_9 32 (by decide +kernel) rfl
theorem w_2101 : Cond.fieldLink "LedgerFilesModel" 71 "LedgerFilesModel" "workAt" "[I" ∈ TB := tp_9 35 (by decide +kernel) rfl
theorem w_2095 : Cond.fieldLink "LedgerFilesModel" 58 "LedgerFilesModel" "workBlock" "[I" ∈ TB := tp_9 29 (by decide +kernel) rfl
set_option maxRecDepth 100000 in
set_option maxHeartbeats 4000000 in
theorem nw2_loop (E : gE) (f0 : Nat → va_E) (sz : Nat) (A : Nat → Prop) (Q : gQ) (hE : 94 ≤ gN E) (R : RfT) (n : Nat) (hn : n ≤ 1024) (hwn : rS R 33 = nI n) (hwb : ∀ k, k < n → ∃ t, t < 1024 ∧ rA R 30 k = nI t) (kq : ∀ g, RfV E g (setA R 36 (nwA (rA R 36) (rA R 30) (n))) → Fr RfK f0 g → G E (1, yX12_noWorks, 2, none, sz, A) cX12_noWorks (gO E (1, yX12_noWorks, 2, none, sz, A) Q) 28 [(0, .ref (gAd E (56))), (1, .int (nI (n)))] [] g) : ∀ (d j : Nat), j + d = n → ∀ f, RfV E f (setA R 36 (nwA (rA R 36) (rA R 30) (j))) → Fr RfK f0 f → G E (1, yX12_noWorks, 2, none, sz, A) cX12_noWorks (gO E (1, yX12_noWorks, 2, none, sz, A) Q) 2 [(0, .ref (gAd E (56))), (1, .int (nI (j)))] [] f := by
  intro d
  induction d with
  | zero =>
    intro j e f r hf
    have e : j = n := e
    refine G.go tv_X12_noWorks 2 4 [(0, .ref (gAd E (56))), (1, .int (nI (j)))] [.ref (gAd E (56)), .int (nI (j))] rfl ?_
    refine G.rg r hE 33 (.int (rS R 33)) (by decide) rfl (tbd tv_X12_noWorks rfl) w_2098 ?_
    refine G.cmp_ge 28 (tbd tv_X12_noWorks rfl) (by decide) (fun c7 => ?_) (fun c7 => absurd (by rw [hwn, e]; exact nI_le (Nat.le_refl _) (by omega)) c7)
    refine G.eql [(0, .ref (gAd E (56))), (1, .int (nI (n)))] (by rw [e]) ?_
    exact kq _ (e ▸ r) (hf)
  | succ d ih =>
    intro j e f r hf
    obtain ⟨t, ht1, ht⟩ := hwb j (by omega)
    refine G.go tv_X12_noWorks 2 4 [(0, .ref (gAd E (56))), (1, .int (nI (j)))] [.ref (gAd E (56)), .int (nI (j))] rfl ?_
    refine G.rg r hE 33 (.int (rS R 33)) (by decide) rfl (tbd tv_X12_noWorks rfl) w_2098 ?_
    refine G.cmp_ge 28 (tbd tv_X12_noWorks rfl) (by decide) (fun c7 => absurd c7 (by rw [hwn]; exact nI_ge (by omega) (by omega))) (fun c7 => ?_)
    refine G.go tv_X12_noWorks 1 11 [(0, .ref (gAd E (56))), (1, .int (nI (j)))] [.ref (gAd E (56))] rfl ?_
    refine G.rg r hE 36 (.ref (gAd E (73))) (by decide) rfl (tbd tv_X12_noWorks rfl) w_2101 ?_
    refine G.go tv_X12_noWorks 1 15 [(0, .ref (gAd E (56))), (1, .int (nI (j)))] [.ref (gAd E (56)), .ref (gAd E (73))] rfl ?_
    refine G.rg r hE 30 (.ref (gAd E (69))) (by decide) rfl (tbd tv_X12_noWorks rfl) w_2095 ?_
    refine G.go tv_X12_noWorks 1 19 [(0, .ref (gAd E (56))), (1, .int (nI (j)))] [.int (nI (j)), .ref (gAd E (69)), .ref (gAd E (73))] rfl ?_
    refine G.ialdN (69) (j) (by omega) (r.a30) (by omega) (by decide) (tbd tv_X12_noWorks rfl) ?_
    refine G.go tv_X12_noWorks 1 21 [(0, .ref (gAd E (56))), (1, .int (nI (j)))] [.int ((-1 : Int32)), .int ((rA R 30) (j)), .ref (gAd E (73))] rfl ?_
    refine G.eqs [.int ((-1 : Int32)), .int (nI (t)), .ref (gAd E (73))] (by rw [ht]) ?_
    refine G.raI (t) hE ⟨by decide, by decide⟩ r.a36 (r.p36 _) (ht1) (by decide) (tbd tv_X12_noWorks rfl) (fun u8 r8 h8 => ?_)
    refine G.go tv_X12_noWorks 2 2 [(0, .ref (gAd E (56))), (1, .int (nI (j) + (1 : Int32)))] [] rfl ?_
    refine G.eql [(0, .ref (gAd E (56))), (1, .int (nI (j + 1)))] (by rw [nI_1]) ?_
    exact ih (j + 1) (by omega) _ (by have q : RfV E u8 (setA (setA R 36 (nwA (rA R 36) (rA R 30) (j))) 36 (upd (nwA (rA R 36) (rA R 30) (j)) (t) ((-1 : Int32)))) := r8; rw [setA_A, show (t : Nat) = (rA R 30 j).toNatClampNeg from by rw [ht, nI_clamp (by omega)]] at q; exact q) ((hf).tr h8 (fun _ h => h))
set_option maxRecDepth 100000 in
set_option maxHeartbeats 4000000 in
theorem c_X12_noWorks (E : gE) (f : Nat → va_E) (R : RfT) (n : Nat) (hn : n ≤ 1024) (hwn : rS R 33 = nI n) (hwb : ∀ k, k < n → ∃ t, t < 1024 ∧ rA R 30 k = nI t) (hE : 94 ≤ gN E) (r : RfV E f R) : Ct E 1 yX12_noWorks cX12_noWorks 2 none [.ref (gAd E (56))] f (fun v g => v = none ∧ RfV E g (rNoW R n) ∧ Fr RfK f g, fun _ _ => False) := by
  refine Ct.of (by decide) (Nat.le_of_ble_eq_true rfl) (fun sz => ?_)
  refine G.eql [(0, .ref (gAd E (56)))] rfl ?_
  refine G.go tv_X12_noWorks 2 2 [(0, .ref (gAd E (56))), (1, .int ((0 : Int32)))] [] rfl ?_
  refine nw2_loop E f _ _ _ hE R n hn hwn hwb ?_ n 0 (by omega) f r Fr.rf
  intro u0 r0 h0
  refine G.go tv_X12_noWorks 2 30 [(0, .ref (gAd E (56))), (1, .int (nI (n)))] [.int ((0 : Int32)), .ref (gAd E (56))] rfl ?_
  refine G.rp r0 hE 33 (setS (setA R 36 (nwA (rA R 36) (rA R 30) (n))) 33 ((0 : Int32))) rfl rfl (by decide) rfl rfl rfl (tbd tv_X12_noWorks rfl) w_2098 (fun u9 r9 h9 => ?_)
  exact G.vret rfl (⟨rfl, r9, (h0).tr h9 (fun _ h => h)⟩) (tbd tv_X12_noWorks rfl)
def rNm (R : RfT) (n : Nat) : RfT := setS (if rS R 34 = 0 then rNoW (setA R 49 (flt (rA R 49) 0 1024 0)) n else setA R 49 (flt (rA R 49) 0 1024 0)) 0 (if rS R 21 = 0 then 1 else 0)
def tb_X12_notMounted : List (Nat × Instr × Nat) := [(0, .iconst 0, 1), (1, .istore_n 1, 1), (2, .iload_n 1, 1), (3, .sipush 1024, 3), (6, .if_icmp .ge 16, 3), (9, .aload_n 0, 1), (10, .getfield 101, 3), (13, .iload_n 1, 1), (14, .iconst 0, 1), (15, .bastore, 1), (16, .iinc 1 1, 3), (19, .goto (-17), 3), (22, .aload_n 0, 1), (23, .getfield 174, 3), (26, .ifCond .ne 7, 3), (29, .aload_n 0, 1), (30, .invokevirtual 168, 3), (33, .aload_n 0, 1), (34, .aload_n 0, 1), (35, .getfield 156, 3), (38, .ifCond .ne 7, 3), (41, .iconst 1, 1), (42, .goto 4, 3), (45, .iconst 0, 1), (46, .iconst 1, 1), (47, .invokevirtual 385, 3), (50, .ireturn, 1)]
theorem tv_X12_notMounted : Tv cX12_notMounted tb_X12_notMounted := by
  unfold Tv
  decide +kernel
theorem w_2114 : Cond.fieldLink "LedgerFilesModel" 101 "LedgerFilesModel" "taken" "[Z" ∈ TB := tp_9 48 (by decide +kernel) rfl
set_option maxRecDepth 100000 in
set_option maxHeartbeats 4000000 in
theorem nm_loop (E : gE) (f0 : Nat → va_E) (sz : Nat) (A : Nat → Prop) (Q : gQ) (hE : 94 ≤ gN E) (R : RfT) (kq : ∀ g, RfV E g (setA R 49 (flt (rA R 49) 0 (1024) 0)) → Fr RfK f0 g → G E (2, yX12_notMounted, 2, (some .boolean), sz, A) cX12_notMounted (gO E (2, yX12_notMounted, 2, (some .boolean), sz, A) Q) 22 [(0, .ref (gAd E (56))), (1, .int (nI (1024)))] [] g) : ∀ (d j : Nat), j + d = 1024 → ∀ f, RfV E f (setA R 49 (flt (rA R 49) 0 (j) 0)) → Fr RfK f0 f → G E (2, yX12_notMounted, 2, (some .boolean), sz, A) cX12_notMounted (gO E (2, yX12_notMounted, 2, (some .boolean), sz, A) Q) 2 [(0, .ref (gAd E (56))), (1, .int (nI (j)))] [] f := by
  intro d
  induction d with
  | zero =>
    intro j e f r hf
    have e : j = 1024 := e
    refine G.go tv_X12_notMounted 2 6 [(0, .ref (gAd E (56))), (1, .int (nI (j)))] [.int ((1024 : Int32)), .int (nI (j))] rfl ?_
    refine G.cmp_ge 22 (tbd tv_X12_notMounted rfl) (by decide) (fun c6 => ?_) (fun c6 => absurd (by rw [e]; exact (nI_le (Nat.le_refl _) (by omega) : nI 1024 ≤ nI 1024)) c6)
    refine G.eql [(0, .ref (gAd E (56))), (1, .int (nI (1024)))] (by rw [e]) ?_
    exact kq _ (e ▸ r) (hf)
  | succ d ih =>
    intro j e f r hf
    refine G.go tv_X12_notMounted 2 6 [(0, .ref (gAd E (56))), (1, .int (nI (j)))] [.int ((1024 : Int32)), .int (nI (j))] rfl ?_
    refine G.cmp_ge 22 (tbd tv_X12_notMounted rfl) (by decide) (fun c6 => absurd c6 ((nI_ge (by omega) (by omega) : ¬ nI 1024 ≤ nI j))) (fun c6 => ?_)
    refine G.go tv_X12_notMounted 1 10 [(0, .ref (gAd E (56))), (1, .int (nI (j)))] [.ref (gAd E (56))] rfl ?_
    refine G.rg r hE 49 (.ref (gAd E (83))) (by decide) rfl (tbd tv_X12_notMounted rfl) w_2114 ?_
    refine G.go tv_X12_notMounted 2 15 [(0, .ref (gAd E (56))), (1, .int (nI (j)))] [.int ((0 : Int32)), .int (nI (j)), .ref (gAd E (83))] rfl ?_
    refine G.raZ (j) hE ⟨by decide, by decide⟩ r.a49 (r.p49 _) (by omega) (by decide) (tbd tv_X12_notMounted rfl) (fun u10 r10 h10 => ?_)
    refine G.go tv_X12_notMounted 2 2 [(0, .ref (gAd E (56))), (1, .int (nI (j) + (1 : Int32)))] [] rfl ?_
    refine G.eql [(0, .ref (gAd E (56))), (1, .int (nI (j + 1)))] (by rw [nI_1]) ?_
    exact ih (j + 1) (by omega) _ (by have q : RfV E u10 (setA (setA R 49 (flt (rA R 49) 0 (j) 0)) 49 (upd (flt (rA R 49) 0 (j) 0) (j) (vp_nar .boolean ((0 : Int32))))) := r10; rw [setA_A, show vp_nar .boolean (0 : Int32) = 0 from rfl, flt_s (Nat.zero_le j)] at q; exact q) ((hf).tr h10 (fun _ h => h))
theorem w_2099 : Cond.fieldLink "LedgerFilesModel" 174 "LedgerFilesModel" "grouped" "Z" ∈ TB := tp_9 33 (by decide +kernel) rfl
theorem w_2086 : Cond.fieldLink "LedgerFilesModel" 156 "LedgerFilesModel" "mounted" "Z" ∈ TB := tp_9 20 (by decide +kernel) rfl
theorem w_2266 : Cond.methodLink "LedgerFilesModel" 385 yX12_refuse ∈ TB := tp_9 200 (by decide +kernel) rfl
theorem w_2269 : Cond.code yX12_refuse prog_14_method_5_code 3 (some .boolean) ∈ TB := tp_9 203 rfl rfl
theorem w_161 : Cond.initialized "LedgerFilesModel" ∈ TB := tp_1 15 (by decide +kernel) rfl
theorem cw_X12_385 : Cw RX12 385 yX12_refuse cX12_refuse 3 (some .boolean) 2 := ⟨w_2266, w_2269, w_161, by decide +kernel, by decide +kernel, by decide⟩
theorem w_2268 : Cond.instanceMethod yX12_refuse ∈ TB := tp_9 202 (by decide +kernel) rfl
theorem w_53 : Cond.selects "LedgerFilesModel" yX12_refuse yX12_refuse ∈ TB := tp_0 53 (by decide +kernel) rfl
theorem w_2298 : Cond.methodLink "LedgerFilesModel" 168 yX12_noWorks ∈ TB := tp_9 232 (by decide +kernel) rfl
theorem w_2301 : Cond.code yX12_noWorks prog_14_method_3_code 2 none ∈ TB := tp_9 235 rfl rfl
theorem cw_X12_168 : Cw RX12 168 yX12_noWorks cX12_noWorks 2 none 0 := ⟨w_2298, w_2301, w_161, by decide +kernel, by decide +kernel, by decide⟩
theorem w_2300 : Cond.instanceMethod yX12_noWorks ∈ TB := tp_9 234 (by decide +kernel) rfl
theorem w_61 : Cond.selects "LedgerFilesModel" yX12_noWorks yX12_noWorks ∈ TB := tp_0 61 (by decide +kernel) rfl
set_option maxRecDepth 100000 in
set_option maxHeartbeats 4000000 in
theorem c_X12_notMounted (E : gE) (f : Nat → va_E) (R : RfT) (n : Nat) (hn : n ≤ 1024) (hwn : rS R 33 = nI n) (hwb : ∀ k, k < n → ∃ t, t < 1024 ∧ rA R 30 k = nI t) (hE : 94 ≤ gN E) (r : RfV E f R) : Ct E 2 yX12_notMounted cX12_notMounted 2 (some .boolean) [.ref (gAd E (56))] f (fun v g => v = some (.int (if rS R 21 = 0 then 1 else 0)) ∧ RfV E g (rNm R n) ∧ Fr RfK f g, fun _ _ => False) := by
  refine Ct.of (by decide) (Nat.le_of_ble_eq_true rfl) (fun sz => ?_)
  refine G.eql [(0, .ref (gAd E (56)))] rfl ?_
  refine G.go tv_X12_notMounted 2 2 [(0, .ref (gAd E (56))), (1, .int ((0 : Int32)))] [] rfl ?_
  refine nm_loop E f _ _ _ hE R ?_ 1024 0 (by omega) f (by rw [flt_0, setA_id]; exact r) Fr.rf
  intro u0 r0 h0
  refine G.go tv_X12_notMounted 1 23 [(0, .ref (gAd E (56))), (1, .int (nI (1024)))] [.ref (gAd E (56))] rfl ?_
  refine G.rg r0 hE 34 (.int (rS R 34)) (by decide) rfl (tbd tv_X12_notMounted rfl) w_2099 ?_
  refine G.if_ne 33 (tbd tv_X12_notMounted rfl) (by decide) (fun c26 => ?_) (fun c26 => ?_)
  · skip
    refine G.go tv_X12_notMounted 2 35 [(0, .ref (gAd E (56))), (1, .int (nI (1024)))] [.ref (gAd E (56)), .ref (gAd E (56))] rfl ?_
    refine G.rg r0 hE 21 (.int (rS R 21)) (by decide) rfl (tbd tv_X12_notMounted rfl) w_2086 ?_
    refine G.if_ne 45 (tbd tv_X12_notMounted rfl) (by decide) (fun c38 => ?_) (fun c38 => ?_)
    · skip
      refine G.go tv_X12_notMounted 2 47 [(0, .ref (gAd E (56))), (1, .int (nI (1024)))] [.int ((1 : Int32)), .int ((0 : Int32)), .ref (gAd E (56))] rfl ?_
      refine G.callV (56) [.int ((0 : Int32)), .int ((1 : Int32))] [] (c_X12_refuse E _ (setA R 49 (flt (rA R 49) 0 (1024) 0)) hE r0 ((0 : Int32)) ((1 : Int32)) (Or.inl rfl)) cls_X12 (by omega) (r0.o) cw_X12_385 w_2268 w_53 (Nat.le_of_ble_eq_true rfl) rfl (Nat.le_of_ble_eq_true rfl) (tbd tv_X12_notMounted rfl) (fun v1 f1 q1 => ?_) (fun _ _ h => h.elim)
      obtain ⟨rfl, ra1, fa1⟩ := q1
      refine G.eqs [.int ((0 : Int32))] rfl ?_
      exact G.iret rfl rfl (⟨(by rw [if_neg (show ¬ rS R 21 = 0 from c38)]), (by unfold rNm; rw [if_neg c26, if_neg (show ¬ rS R 21 = 0 from c38)]; exact ra1), (h0).tr fa1 (fun _ h => h)⟩) (tbd tv_X12_notMounted rfl)
    · skip
      refine G.go tv_X12_notMounted 3 47 [(0, .ref (gAd E (56))), (1, .int (nI (1024)))] [.int ((1 : Int32)), .int ((1 : Int32)), .ref (gAd E (56))] rfl ?_
      refine G.callV (56) [.int ((1 : Int32)), .int ((1 : Int32))] [] (c_X12_refuse E _ (setA R 49 (flt (rA R 49) 0 (1024) 0)) hE r0 ((1 : Int32)) ((1 : Int32)) (Or.inr rfl)) cls_X12 (by omega) (r0.o) cw_X12_385 w_2268 w_53 (Nat.le_of_ble_eq_true rfl) rfl (Nat.le_of_ble_eq_true rfl) (tbd tv_X12_notMounted rfl) (fun v2 f2 q2 => ?_) (fun _ _ h => h.elim)
      obtain ⟨rfl, ra2, fa2⟩ := q2
      refine G.eqs [.int ((1 : Int32))] rfl ?_
      exact G.iret rfl rfl (⟨(by rw [if_pos (show rS R 21 = 0 from c38)]), (by unfold rNm; rw [if_neg c26, if_pos (show rS R 21 = 0 from c38)]; exact ra2), (h0).tr fa2 (fun _ h => h)⟩) (tbd tv_X12_notMounted rfl)
  · skip
    refine G.go tv_X12_notMounted 1 30 [(0, .ref (gAd E (56))), (1, .int (nI (1024)))] [.ref (gAd E (56))] rfl ?_
    refine G.callV (56) [] [] (c_X12_noWorks E _ (setA R 49 (flt (rA R 49) 0 (1024) 0)) n hn hwn hwb hE r0) cls_X12 (by omega) (r0.o) cw_X12_168 w_2300 w_61 (Nat.le_of_ble_eq_true rfl) rfl (Nat.le_of_ble_eq_true rfl) (tbd tv_X12_notMounted rfl) (fun v3 f3 q3 => ?_) (fun _ _ h => h.elim)
    obtain ⟨rfl, ra3, fa3⟩ := q3
    refine G.eqs [] rfl ?_
    refine G.go tv_X12_notMounted 2 35 [(0, .ref (gAd E (56))), (1, .int (nI (1024)))] [.ref (gAd E (56)), .ref (gAd E (56))] rfl ?_
    refine G.rg ra3 hE 21 (.int (rS (rNoW (setA R 49 (flt (rA R 49) 0 (1024) 0)) n) 21)) (by decide) rfl (tbd tv_X12_notMounted rfl) w_2086 ?_
    refine G.if_ne 45 (tbd tv_X12_notMounted rfl) (by decide) (fun c38 => ?_) (fun c38 => ?_)
    · skip
      refine G.go tv_X12_notMounted 2 47 [(0, .ref (gAd E (56))), (1, .int (nI (1024)))] [.int ((1 : Int32)), .int ((0 : Int32)), .ref (gAd E (56))] rfl ?_
      refine G.callV (56) [.int ((0 : Int32)), .int ((1 : Int32))] [] (c_X12_refuse E _ (rNoW (setA R 49 (flt (rA R 49) 0 (1024) 0)) n) hE ra3 ((0 : Int32)) ((1 : Int32)) (Or.inl rfl)) cls_X12 (by omega) (ra3.o) cw_X12_385 w_2268 w_53 (Nat.le_of_ble_eq_true rfl) rfl (Nat.le_of_ble_eq_true rfl) (tbd tv_X12_notMounted rfl) (fun v4 f4 q4 => ?_) (fun _ _ h => h.elim)
      obtain ⟨rfl, ra4, fa4⟩ := q4
      refine G.eqs [.int ((0 : Int32))] rfl ?_
      exact G.iret rfl rfl (⟨(by rw [if_neg (show ¬ rS R 21 = 0 from c38)]), (by unfold rNm; rw [if_pos c26, if_neg (show ¬ rS R 21 = 0 from c38)]; exact ra4), ((h0).tr fa3 (fun _ h => h)).tr fa4 (fun _ h => h)⟩) (tbd tv_X12_notMounted rfl)
    · skip
      refine G.go tv_X12_notMounted 3 47 [(0, .ref (gAd E (56))), (1, .int (nI (1024)))] [.int ((1 : Int32)), .int ((1 : Int32)), .ref (gAd E (56))] rfl ?_
      refine G.callV (56) [.int ((1 : Int32)), .int ((1 : Int32))] [] (c_X12_refuse E _ (rNoW (setA R 49 (flt (rA R 49) 0 (1024) 0)) n) hE ra3 ((1 : Int32)) ((1 : Int32)) (Or.inr rfl)) cls_X12 (by omega) (ra3.o) cw_X12_385 w_2268 w_53 (Nat.le_of_ble_eq_true rfl) rfl (Nat.le_of_ble_eq_true rfl) (tbd tv_X12_notMounted rfl) (fun v5 f5 q5 => ?_) (fun _ _ h => h.elim)
      obtain ⟨rfl, ra5, fa5⟩ := q5
      refine G.eqs [.int ((1 : Int32))] rfl ?_
      exact G.iret rfl rfl (⟨(by rw [if_pos (show rS R 21 = 0 from c38)]), (by unfold rNm; rw [if_pos c26, if_pos (show rS R 21 = 0 from c38)]; exact ra5), ((h0).tr fa3 (fun _ h => h)).tr fa5 (fun _ h => h)⟩) (tbd tv_X12_notMounted rfl)
