/-- a step of the disk can be made -/
abbrev rCan (R : RfT) : Prop := ¬ rS R 11 = 0 ∧ ¬ rS R 12 = 0
def rSt (R : RfT) : RfT := setS R 12 (if 0 < rS R 12 then rS R 12 - 1 else rS R 12)
/-- a step that can't be made: without power nothing happens, else the power fails -/
def rNo (R : RfT) (n : Nat) : RfT := if rS R 11 = 0 then R else rFl R n
/-- the first that waits is synced -/
def rPop (R : RfT) (wf b : Nat) (q : Bool) : RfT := setS (setS (cond q (setA (setA R 6 (va_cpy (rA R 8) (rA R 6) (128 * wf) (128 * b) 128)) 40 (upd (rA R 40) b (-1))) (setA R 6 (va_cpy (rA R 8) (rA R 6) (128 * wf) (128 * b) 128))) 9 (nI ((wf + 1) % 256))) 10 (nI 255)
/-- one more waits: block t with the held value q -/
def rPush (R : RfT) (wf w t q : Nat) : RfT := setS (setA (setA (setA R 7 (upd (rA R 7) ((wf + w) % 256) (nI t))) 8 (va_cpy (rA R 17) (rA R 8) (128 * q) (128 * ((wf + w) % 256)) 128)) 40 (upd (rA R 40) t (nI ((wf + w) % 256)))) 10 (nI (w + 1))
def rWrt (R : RfT) (wf w b t q : Nat) : RfT := if w = 256 then rPush (rPop (setS (rSt R) 13 (rS R 13 + 1)) wf b (decide (rA R 40 b = nI wf))) ((wf + 1) % 256) 255 t q else rPush (setS (rSt R) 13 (rS R 13 + 1)) wf w t q
/-- the order of the reference's disk and buffer -/
def rDb (R : RfT) (wf w B hd : Nat) : Prop := (rS R 9 = nI wf ∧ wf < 256 ∧ rS R 10 = nI w ∧ w ≤ 256) ∧ (∀ k, k < 256 → ∃ t, t < 1024 ∧ rA R 7 k = nI t) ∧ (∀ t, t < 1024 → rA R 40 t = -1 ∨ ∃ u, u < 256 ∧ rA R 40 t = nI u) ∧ (Byt (rA R 6) ∧ Byt (rA R 8) ∧ Byt (rA R 17) ∧ Byt (rA R 44)) ∧ (rS R 2 = nI B ∧ 4 ≤ B ∧ B ≤ 64 ∧ rS R 18 = nI hd ∧ hd ≤ B) ∧ (∀ k, k < 64 → ∃ t, t < 1024 ∧ rA R 15 k = nI t) ∧ (∀ t, t < 1024 → rA R 39 t = -1 ∨ ∃ k, k < hd ∧ rA R 39 t = nI k ∧ rA R 15 k = nI t)
def rWk (R : RfT) (n : Nat) : Prop := n ≤ 1024 ∧ rS R 33 = nI n ∧ ∀ k, k < n → ∃ t, t < 1024 ∧ rA R 30 k = nI t
def tb_X12_stepped : List (Nat × Instr × Nat) := [(0, .aload_n 0, 1), (1, .getfield 25, 3), (4, .ifCond .ne 5, 3), (7, .iconst 0, 1), (8, .ireturn, 1), (9, .aload_n 0, 1), (10, .getfield 29, 3), (13, .ifCond .ne 9, 3), (16, .aload_n 0, 1), (17, .invokevirtual 153, 3), (20, .iconst 0, 1), (21, .ireturn, 1), (22, .aload_n 0, 1), (23, .aload_n 0, 1), (24, .getfield 29, 3), (27, .ifCond .le 12, 3), (30, .aload_n 0, 1), (31, .getfield 29, 3), (34, .iconst 1, 1), (35, .isub, 1), (36, .goto 7, 3), (39, .aload_n 0, 1), (40, .getfield 29, 3), (43, .putfield 29, 3), (46, .iconst 1, 1), (47, .ireturn, 1)]
theorem tv_X12_stepped : Tv cX12_stepped tb_X12_stepped := by
  unfold Tv
  decide +kernel
set_option maxRecDepth 100000 in
set_option maxHeartbeats 4000000 in
theorem c_X12_stepped (E : gE) (f : Nat → va_E) (R : RfT) (n : Nat) (hk0 : rWk R n) (hE : 94 ≤ gN E) (r : RfV E f R) : Ct E 3 yX12_stepped cX12_stepped 1 (some .boolean) [.ref (gAd E (56))] f (fun v g => (¬ rCan R ∧ v = some (.int 0) ∧ RfV E g (rNo R n) ∧ Fr RfK f g) ∨ (rCan R ∧ v = some (.int 1) ∧ RfV E g (rSt R) ∧ Fr RfK f g), fun _ _ => False) := by
  obtain ⟨hn, hwn, hwb⟩ := id hk0
  refine Ct.of (by decide) (Nat.le_of_ble_eq_true rfl) (fun sz => ?_)
  refine G.eql [(0, .ref (gAd E (56)))] rfl ?_
  refine G.go tv_X12_stepped 1 1 [(0, .ref (gAd E (56)))] [.ref (gAd E (56))] rfl ?_
  refine G.rg r hE 11 (.int (rS R 11)) (by decide) rfl (tbd tv_X12_stepped rfl) w_2076 ?_
  refine G.if_ne 9 (tbd tv_X12_stepped rfl) (by decide) (fun c4 => ?_) (fun c4 => ?_)
  · skip
    refine G.go tv_X12_stepped 1 10 [(0, .ref (gAd E (56)))] [.ref (gAd E (56))] rfl ?_
    refine G.rg r hE 12 (.int (rS R 12)) (by decide) rfl (tbd tv_X12_stepped rfl) w_2077 ?_
    refine G.if_ne 22 (tbd tv_X12_stepped rfl) (by decide) (fun c13 => ?_) (fun c13 => ?_)
    · skip
      refine G.go tv_X12_stepped 2 24 [(0, .ref (gAd E (56)))] [.ref (gAd E (56)), .ref (gAd E (56))] rfl ?_
      refine G.rg r hE 12 (.int (rS R 12)) (by decide) rfl (tbd tv_X12_stepped rfl) w_2077 ?_
      refine G.if_le 39 (tbd tv_X12_stepped rfl) (by decide) (fun c27 => ?_) (fun c27 => ?_)
      · skip
        refine G.go tv_X12_stepped 1 40 [(0, .ref (gAd E (56)))] [.ref (gAd E (56)), .ref (gAd E (56))] rfl ?_
        refine G.rg r hE 12 (.int (rS R 12)) (by decide) rfl (tbd tv_X12_stepped rfl) w_2077 ?_
        refine G.rp r hE 12 (setS (R) 12 (rS R 12)) rfl rfl (by decide) rfl rfl rfl (tbd tv_X12_stepped rfl) w_2077 (fun u1 r1 h1 => ?_)
        refine G.go tv_X12_stepped 1 47 [(0, .ref (gAd E (56)))] [.int ((1 : Int32))] rfl ?_
        exact G.iret rfl rfl (Or.inr ⟨⟨c4, c13⟩, rfl, by unfold rSt; first | (rw [if_neg (Int32.not_lt.mpr c27)]; exact r1) | (rw [if_pos (Int32.not_le.mp c27)]; exact r1), h1⟩) (tbd tv_X12_stepped rfl)
      · skip
        refine G.go tv_X12_stepped 1 31 [(0, .ref (gAd E (56)))] [.ref (gAd E (56)), .ref (gAd E (56))] rfl ?_
        refine G.rg r hE 12 (.int (rS R 12)) (by decide) rfl (tbd tv_X12_stepped rfl) w_2077 ?_
        refine G.go tv_X12_stepped 3 43 [(0, .ref (gAd E (56)))] [.int ((rS R 12) - ((1 : Int32))), .ref (gAd E (56))] rfl ?_
        refine G.rp r hE 12 (setS (R) 12 ((rS R 12) - ((1 : Int32)))) rfl rfl (by decide) rfl rfl rfl (tbd tv_X12_stepped rfl) w_2077 (fun u2 r2 h2 => ?_)
        refine G.go tv_X12_stepped 1 47 [(0, .ref (gAd E (56)))] [.int ((1 : Int32))] rfl ?_
        exact G.iret rfl rfl (Or.inr ⟨⟨c4, c13⟩, rfl, by unfold rSt; first | (rw [if_neg (Int32.not_lt.mpr c27)]; exact r2) | (rw [if_pos (Int32.not_le.mp c27)]; exact r2), h2⟩) (tbd tv_X12_stepped rfl)
    · skip
      refine G.go tv_X12_stepped 1 17 [(0, .ref (gAd E (56)))] [.ref (gAd E (56))] rfl ?_
      refine G.callV (56) [] [] (c_X12_fails E _ (R) n hn hwn hwb hE r) cls_X12 (by omega) (r.o) cw_X12_153 w_2296 w_60 (Nat.le_of_ble_eq_true rfl) rfl (Nat.le_of_ble_eq_true rfl) (tbd tv_X12_stepped rfl) (fun v1 f1 q1 => ?_) (fun _ _ h => h.elim)
      obtain ⟨rfl, ra1, fa1⟩ := q1
      refine G.eqs [] rfl ?_
      refine G.go tv_X12_stepped 1 21 [(0, .ref (gAd E (56)))] [.int ((0 : Int32))] rfl ?_
      exact G.iret rfl rfl (Or.inl ⟨fun q => q.2 c13, rfl, by unfold rNo; rw [if_neg c4]; exact ra1, fa1⟩) (tbd tv_X12_stepped rfl)
  · skip
    refine G.go tv_X12_stepped 1 8 [(0, .ref (gAd E (56)))] [.int ((0 : Int32))] rfl ?_
    exact G.iret rfl rfl (Or.inl ⟨fun q => q.1 c4, rfl, by unfold rNo; rw [if_pos c4]; exact r, Fr.rf⟩) (tbd tv_X12_stepped rfl)
def tb_X12_writeDisk : List (Nat × Instr × Nat) := [(0, .aload_n 0, 1), (1, .invokevirtual 177, 3), (4, .ifCond .ne 4, 3), (7, .return_, 1), (8, .aload_n 0, 1), (9, .dup, 1), (10, .getfield 181, 3), (13, .iconst 1, 1), (14, .iadd, 1), (15, .putfield 181, 3), (18, .aload_n 0, 1), (19, .getfield 184, 3), (22, .sipush 256, 3), (25, .if_icmp .ne 95, 3), (28, .aload_n 0, 1), (29, .getfield 22, 3), (32, .sipush 128, 3), (35, .aload_n 0, 1), (36, .getfield 187, 3), (39, .imul, 1), (40, .aload_n 0, 1), (41, .getfield 14, 3), (44, .sipush 128, 3), (47, .aload_n 0, 1), (48, .getfield 17, 3), (51, .aload_n 0, 1), (52, .getfield 187, 3), (55, .iaload, 1), (56, .imul, 1), (57, .invokestatic 190, 3), (60, .aload_n 0, 1), (61, .getfield 83, 3), (64, .aload_n 0, 1), (65, .getfield 17, 3), (68, .aload_n 0, 1), (69, .getfield 187, 3), (72, .iaload, 1), (73, .iaload, 1), (74, .aload_n 0, 1), (75, .getfield 187, 3), (78, .if_icmp .ne 18, 3), (81, .aload_n 0, 1), (82, .getfield 83, 3), (85, .aload_n 0, 1), (86, .getfield 17, 3), (89, .aload_n 0, 1), (90, .getfield 187, 3), (93, .iaload, 1), (94, .iconst (-1), 1), (95, .iastore, 1), (96, .aload_n 0, 1), (97, .aload_n 0, 1), (98, .getfield 187, 3), (101, .iconst 1, 1), (102, .iadd, 1), (103, .sipush 256, 3), (106, .irem, 1), (107, .putfield 187, 3), (110, .aload_n 0, 1), (111, .dup, 1), (112, .getfield 184, 3), (115, .iconst 1, 1), (116, .isub, 1), (117, .putfield 184, 3), (120, .aload_n 0, 1), (121, .getfield 187, 3), (124, .aload_n 0, 1), (125, .getfield 184, 3), (128, .iadd, 1), (129, .sipush 256, 3), (132, .irem, 1), (133, .istore 4, 2), (135, .aload_n 0, 1), (136, .getfield 17, 3), (139, .iload 4, 2), (141, .iload_n 1, 1), (142, .iastore, 1), (143, .aload_n 2, 1), (144, .iload_n 3, 1), (145, .aload_n 0, 1), (146, .getfield 22, 3), (149, .sipush 128, 3), (152, .iload 4, 2), (154, .imul, 1), (155, .invokestatic 190, 3), (158, .aload_n 0, 1), (159, .getfield 83, 3), (162, .iload_n 1, 1), (163, .iload 4, 2), (165, .iastore, 1), (166, .aload_n 0, 1), (167, .dup, 1), (168, .getfield 184, 3), (171, .iconst 1, 1), (172, .iadd, 1), (173, .putfield 184, 3), (176, .return_, 1)]
theorem tv_X12_writeDisk : Tv cX12_writeDisk tb_X12_writeDisk := by
  unfold Tv
  decide +kernel
theorem w_2290 : Cond.methodLink "LedgerFilesModel" 177 yX12_stepped ∈ TB := tp_9 224 (by decide +kernel) rfl
theorem w_2293 : Cond.code yX12_stepped prog_14_method_8_code 1 (some .boolean) ∈ TB := tp_9 227 rfl rfl
theorem cw_X12_177 : Cw RX12 177 yX12_stepped cX12_stepped 1 (some .boolean) 0 := ⟨w_2290, w_2293, w_161, by decide +kernel, by decide +kernel, by decide⟩
theorem w_2292 : Cond.instanceMethod yX12_stepped ∈ TB := tp_9 226 (by decide +kernel) rfl
theorem w_59 : Cond.selects "LedgerFilesModel" yX12_stepped yX12_stepped ∈ TB := tp_0 59 (by decide +kernel) rfl
set_option maxRecDepth 100000 in
set_option maxHeartbeats 4000000 in
theorem c_X12_writeDisk (E : gE) (f : Nat → va_E) (R : RfT) (wf w B hd n : Nat) (hd0 : rDb R wf w B hd) (hk0 : rWk R n) (hE : 94 ≤ gN E) (r : RfV E f R) (b t q : Nat) (hb1 : b < 1024) (hb : rA R 7 wf = nI b) (ht : t < 1024) (hq : q < 64) : Ct E 4 yX12_writeDisk cX12_writeDisk 5 none [.ref (gAd E (56)), .int (nI t), .ref (gAd E (63)), .int (nI (128 * q))] f (fun v g => (¬ rCan R ∧ v = none ∧ RfV E g (rNo R n) ∧ Fr RfK f g) ∨ (rCan R ∧ v = none ∧ RfV E g (rWrt R wf w b t q) ∧ Fr RfK f g), fun _ _ => False) := by
  obtain ⟨⟨hwf, hwf2, hnw, hnw2⟩, h7, h40, ⟨hb6, hb8, hb17, hb44⟩, ⟨hB, hB4, hB64, hh, hhB⟩, h15, h39⟩ := id hd0
  obtain ⟨hn, hwn, hwb⟩ := id hk0
  refine Ct.of (by decide) (Nat.le_of_ble_eq_true rfl) (fun sz => ?_)
  refine G.eql [(0, .ref (gAd E (56))), (1, .int (nI t)), (2, .ref (gAd E (63))), (3, .int (nI (128 * q)))] rfl ?_
  refine G.go tv_X12_writeDisk 1 1 [(0, .ref (gAd E (56))), (1, .int (nI t)), (2, .ref (gAd E (63))), (3, .int (nI (128 * q)))] [.ref (gAd E (56))] rfl ?_
  refine G.callV (56) [] [] (c_X12_stepped E _ (R) n hk0 hE r) cls_X12 (by omega) (r.o) cw_X12_177 w_2292 w_59 (Nat.le_of_ble_eq_true rfl) rfl (Nat.le_of_ble_eq_true rfl) (tbd tv_X12_writeDisk rfl) (fun v1 f1 q1 => ?_) (fun _ _ h => h.elim)
  rcases q1 with ⟨hc, rfl, ra1, fa1⟩ | ⟨hc, rfl, ra1, fa1⟩
  · skip
    refine G.eqs [.int ((0 : Int32))] rfl ?_
    refine G.if_ne 8 (tbd tv_X12_writeDisk rfl) (by decide) (fun c4 => absurd (by decide) c4) (fun c4 => ?_)
    exact G.vret rfl (Or.inl ⟨hc, rfl, ra1, fa1⟩) (tbd tv_X12_writeDisk rfl)
  · skip
    refine G.eqs [.int ((1 : Int32))] rfl ?_
    refine G.if_ne 8 (tbd tv_X12_writeDisk rfl) (by decide) (fun c4 => ?_) (fun c4 => absurd c4 (by decide))
    refine G.go tv_X12_writeDisk 2 10 [(0, .ref (gAd E (56))), (1, .int (nI t)), (2, .ref (gAd E (63))), (3, .int (nI (128 * q)))] [.ref (gAd E (56)), .ref (gAd E (56))] rfl ?_
    refine G.rg ra1 hE 13 (.int (rS R 13)) (by decide) rfl (tbd tv_X12_writeDisk rfl) w_2078 ?_
    refine G.go tv_X12_writeDisk 2 15 [(0, .ref (gAd E (56))), (1, .int (nI t)), (2, .ref (gAd E (63))), (3, .int (nI (128 * q)))] [.int ((rS R 13) + ((1 : Int32))), .ref (gAd E (56))] rfl ?_
    refine G.rp ra1 hE 13 (setS (rSt (R)) 13 ((rS R 13) + ((1 : Int32)))) rfl rfl (by decide) rfl rfl rfl (tbd tv_X12_writeDisk rfl) w_2078 (fun u3 r3 h3 => ?_)
    refine G.go tv_X12_writeDisk 1 19 [(0, .ref (gAd E (56))), (1, .int (nI t)), (2, .ref (gAd E (63))), (3, .int (nI (128 * q)))] [.ref (gAd E (56))] rfl ?_
    refine G.rg r3 hE 10 (.int (rS R 10)) (by decide) rfl (tbd tv_X12_writeDisk rfl) w_2075 ?_
    refine G.eqs [.int (nI w)] (by rw [hnw]) ?_
    refine G.go tv_X12_writeDisk 1 25 [(0, .ref (gAd E (56))), (1, .int (nI t)), (2, .ref (gAd E (63))), (3, .int (nI (128 * q)))] [.int ((256 : Int32)), .int (nI w)] rfl ?_
    refine G.cmp_ne 120 (tbd tv_X12_writeDisk rfl) (by decide) (fun c25 => ?_) (fun c25 => ?_)
    · skip
      have hw : ¬ w = 256 := fun e => c25 (by rw [e]; rfl)
      refine G.go tv_X12_writeDisk 1 121 [(0, .ref (gAd E (56))), (1, .int (nI t)), (2, .ref (gAd E (63))), (3, .int (nI (128 * q)))] [.ref (gAd E (56))] rfl ?_
      refine G.rg r3 hE 9 (.int (rS R 9)) (by decide) rfl (tbd tv_X12_writeDisk rfl) w_2074 ?_
      refine G.eqs [.int (nI wf)] (by rw [hwf]) ?_
      refine G.go tv_X12_writeDisk 1 125 [(0, .ref (gAd E (56))), (1, .int (nI t)), (2, .ref (gAd E (63))), (3, .int (nI (128 * q)))] [.ref (gAd E (56)), .int (nI wf)] rfl ?_
      refine G.rg r3 hE 10 (.int (rS R 10)) (by decide) rfl (tbd tv_X12_writeDisk rfl) w_2075 ?_
      refine G.eqs [.int (nI w), .int (nI wf)] (by rw [hnw]) ?_
      refine G.go tv_X12_writeDisk 2 132 [(0, .ref (gAd E (56))), (1, .int (nI t)), (2, .ref (gAd E (63))), (3, .int (nI (128 * q)))] [.int ((256 : Int32)), .int ((nI wf) + (nI w))] rfl ?_
      refine G.irem (by decide) (tbd tv_X12_writeDisk rfl) ?_
      refine G.eqs [.int (nI ((wf + w) % 256))] (by rw [nI_add, show (256 : Int32) = nI 256 from rfl, pk_rem (by omega) (by omega) (by omega)]) ?_
      refine G.go tv_X12_writeDisk 2 136 [(0, .ref (gAd E (56))), (1, .int (nI t)), (2, .ref (gAd E (63))), (3, .int (nI (128 * q))), (4, .int (nI ((wf + w) % 256)))] [.ref (gAd E (56))] rfl ?_
      refine G.rg r3 hE 7 (.ref (gAd E (59))) (by decide) rfl (tbd tv_X12_writeDisk rfl) w_2072 ?_
      refine G.go tv_X12_writeDisk 2 142 [(0, .ref (gAd E (56))), (1, .int (nI t)), (2, .ref (gAd E (63))), (3, .int (nI (128 * q))), (4, .int (nI ((wf + w) % 256)))] [.int (nI t), .int (nI ((wf + w) % 256)), .ref (gAd E (59))] rfl ?_
      refine G.raI ((wf + w) % 256) hE ⟨by decide, by decide⟩ r3.a7 (r3.p7 _) (Nat.mod_lt _ (by decide)) (by decide) (tbd tv_X12_writeDisk rfl) (fun u4 r4 h4 => ?_)
      refine G.go tv_X12_writeDisk 3 146 [(0, .ref (gAd E (56))), (1, .int (nI t)), (2, .ref (gAd E (63))), (3, .int (nI (128 * q))), (4, .int (nI ((wf + w) % 256)))] [.ref (gAd E (56)), .int (nI (128 * q)), .ref (gAd E (63))] rfl ?_
      refine G.rg r4 hE 8 (.ref (gAd E (60))) (by decide) rfl (tbd tv_X12_writeDisk rfl) w_2073 ?_
      refine G.go tv_X12_writeDisk 3 155 [(0, .ref (gAd E (56))), (1, .int (nI t)), (2, .ref (gAd E (63))), (3, .int (nI (128 * q))), (4, .int (nI ((wf + w) % 256)))] [.int (((128 : Int32)) * (nI ((wf + w) % 256))), .ref (gAd E (60)), .int (nI (128 * q)), .ref (gAd E (63))] rfl ?_
      refine G.eqs [.int (nI (128 * ((wf + w) % 256))), .ref (gAd E (60)), .int (nI (128 * q)), .ref (gAd E (63))] (by rw [show (128 : Int32) = nI 128 from rfl, pk_mul]) ?_
      refine G.callS [.ref (gAd E (63)), .int (nI (128 * q)), .ref (gAd E (60)), .int (nI (128 * ((wf + w) % 256)))] [] (c_X12_move E _ 63 8192 60 32768 (rA R 17) (rA R 8) (128 * q) (128 * ((wf + w) % 256)) (by omega) (by omega) (by decide) r4.a17 (by decide) (by decide) (by omega) (by have := Nat.mod_lt (wf + w) (by decide : 0 < 256); omega) hb17 r4.a8) cw_X12_190 w_2307 (Nat.le_of_ble_eq_true rfl) rfl (Nat.le_of_ble_eq_true rfl) (tbd tv_X12_writeDisk rfl) (fun v2 f2 q2 => ?_) (fun _ _ h => h.elim)
      obtain ⟨rfl, ea2⟩ := q2
      refine G.eqs [] rfl ?_
      have ra2 : RfV E f2 (setA (setA (setS (rSt (R)) 13 ((rS R 13) + ((1 : Int32)))) 7 (upd (rA R 7) ((wf + w) % 256) (nI t))) 8 (va_cpy (rA R 17) (rA R 8) (128 * q) (128 * ((wf + w) % 256)) 128)) := RfV.ar (r4.p8 _) ea2
      have fa2 : Fr RfK u4 f2 := Fr.ar ⟨by decide, by decide⟩ ea2
      refine G.go tv_X12_writeDisk 1 159 [(0, .ref (gAd E (56))), (1, .int (nI t)), (2, .ref (gAd E (63))), (3, .int (nI (128 * q))), (4, .int (nI ((wf + w) % 256)))] [.ref (gAd E (56))] rfl ?_
      refine G.rg ra2 hE 40 (.ref (gAd E (77))) (by decide) rfl (tbd tv_X12_writeDisk rfl) w_2105 ?_
      refine G.go tv_X12_writeDisk 2 165 [(0, .ref (gAd E (56))), (1, .int (nI t)), (2, .ref (gAd E (63))), (3, .int (nI (128 * q))), (4, .int (nI ((wf + w) % 256)))] [.int (nI ((wf + w) % 256)), .int (nI t), .ref (gAd E (77))] rfl ?_
      refine G.raI (t) hE ⟨by decide, by decide⟩ ra2.a40 (ra2.p40 _) (ht) (by decide) (tbd tv_X12_writeDisk rfl) (fun u5 r5 h5 => ?_)
      refine G.go tv_X12_writeDisk 2 168 [(0, .ref (gAd E (56))), (1, .int (nI t)), (2, .ref (gAd E (63))), (3, .int (nI (128 * q))), (4, .int (nI ((wf + w) % 256)))] [.ref (gAd E (56)), .ref (gAd E (56))] rfl ?_
      refine G.rg r5 hE 10 (.int (rS R 10)) (by decide) rfl (tbd tv_X12_writeDisk rfl) w_2075 ?_
      refine G.eqs [.int (nI w), .ref (gAd E (56))] (by rw [hnw]) ?_
      refine G.go tv_X12_writeDisk 2 173 [(0, .ref (gAd E (56))), (1, .int (nI t)), (2, .ref (gAd E (63))), (3, .int (nI (128 * q))), (4, .int (nI ((wf + w) % 256)))] [.int ((nI w) + ((1 : Int32))), .ref (gAd E (56))] rfl ?_
      refine G.eqs [.int (nI (w + 1)), .ref (gAd E (56))] (by rw [nI_1]) ?_
      refine G.rp r5 hE 10 (setS (setA (setA (setA (setS (rSt (R)) 13 ((rS R 13) + ((1 : Int32)))) 7 (upd (rA R 7) ((wf + w) % 256) (nI t))) 8 (va_cpy (rA R 17) (rA R 8) (128 * q) (128 * ((wf + w) % 256)) 128)) 40 (upd (rA R 40) (t) (nI ((wf + w) % 256)))) 10 (nI (w + 1))) rfl rfl (by decide) rfl rfl rfl (tbd tv_X12_writeDisk rfl) w_2075 (fun u6 r6 h6 => ?_)
      exact G.vret rfl (Or.inr ⟨hc, rfl, by unfold rWrt; rw [if_neg hw]; exact r6, (((((fa1).tr h3 (fun _ h => h)).tr h4 (fun _ h => h)).tr fa2 (fun _ h => h)).tr h5 (fun _ h => h)).tr h6 (fun _ h => h)⟩) (tbd tv_X12_writeDisk rfl)
    · skip
      have hw : w = 256 := (nI_eq (by omega) (by omega) : nI w = nI 256 ↔ w = 256).mp c25
      refine G.go tv_X12_writeDisk 1 29 [(0, .ref (gAd E (56))), (1, .int (nI t)), (2, .ref (gAd E (63))), (3, .int (nI (128 * q)))] [.ref (gAd E (56))] rfl ?_
      refine G.rg r3 hE 8 (.ref (gAd E (60))) (by decide) rfl (tbd tv_X12_writeDisk rfl) w_2073 ?_
      refine G.go tv_X12_writeDisk 2 36 [(0, .ref (gAd E (56))), (1, .int (nI t)), (2, .ref (gAd E (63))), (3, .int (nI (128 * q)))] [.ref (gAd E (56)), .int ((128 : Int32)), .ref (gAd E (60))] rfl ?_
      refine G.rg r3 hE 9 (.int (rS R 9)) (by decide) rfl (tbd tv_X12_writeDisk rfl) w_2074 ?_
      refine G.eqs [.int (nI wf), .int ((128 : Int32)), .ref (gAd E (60))] (by rw [hwf]) ?_
      refine G.go tv_X12_writeDisk 2 41 [(0, .ref (gAd E (56))), (1, .int (nI t)), (2, .ref (gAd E (63))), (3, .int (nI (128 * q)))] [.ref (gAd E (56)), .int (((128 : Int32)) * (nI wf)), .ref (gAd E (60))] rfl ?_
      refine G.rg r3 hE 6 (.ref (gAd E (58))) (by decide) rfl (tbd tv_X12_writeDisk rfl) w_2071 ?_
      refine G.go tv_X12_writeDisk 2 48 [(0, .ref (gAd E (56))), (1, .int (nI t)), (2, .ref (gAd E (63))), (3, .int (nI (128 * q)))] [.ref (gAd E (56)), .int ((128 : Int32)), .ref (gAd E (58)), .int (((128 : Int32)) * (nI wf)), .ref (gAd E (60))] rfl ?_
      refine G.rg r3 hE 7 (.ref (gAd E (59))) (by decide) rfl (tbd tv_X12_writeDisk rfl) w_2072 ?_
      refine G.go tv_X12_writeDisk 1 52 [(0, .ref (gAd E (56))), (1, .int (nI t)), (2, .ref (gAd E (63))), (3, .int (nI (128 * q)))] [.ref (gAd E (56)), .ref (gAd E (59)), .int ((128 : Int32)), .ref (gAd E (58)), .int (((128 : Int32)) * (nI wf)), .ref (gAd E (60))] rfl ?_
      refine G.rg r3 hE 9 (.int (rS R 9)) (by decide) rfl (tbd tv_X12_writeDisk rfl) w_2074 ?_
      refine G.eqs [.int (nI wf), .ref (gAd E (59)), .int ((128 : Int32)), .ref (gAd E (58)), .int (((128 : Int32)) * (nI wf)), .ref (gAd E (60))] (by rw [hwf]) ?_
      refine G.ialdN (59) (wf) (by omega) (r3.a7) (hwf2) (by decide) (tbd tv_X12_writeDisk rfl) ?_
      refine G.eqs [.int ((rA R 7) (wf)), .int ((128 : Int32)), .ref (gAd E (58)), .int (((128 : Int32)) * (nI wf)), .ref (gAd E (60))] rfl ?_
      refine G.eqs [.int (nI b), .int ((128 : Int32)), .ref (gAd E (58)), .int (((128 : Int32)) * (nI wf)), .ref (gAd E (60))] (by rw [hb]) ?_
      refine G.go tv_X12_writeDisk 1 57 [(0, .ref (gAd E (56))), (1, .int (nI t)), (2, .ref (gAd E (63))), (3, .int (nI (128 * q)))] [.int (((128 : Int32)) * (nI b)), .ref (gAd E (58)), .int (((128 : Int32)) * (nI wf)), .ref (gAd E (60))] rfl ?_
      refine G.eqs [.int (nI (128 * b)), .ref (gAd E (58)), .int (nI (128 * wf)), .ref (gAd E (60))] (by rw [show (128 : Int32) = nI 128 from rfl, pk_mul, pk_mul]) ?_
      refine G.callS [.ref (gAd E (60)), .int (nI (128 * wf)), .ref (gAd E (58)), .int (nI (128 * b))] [] (c_X12_move E _ 60 32768 58 131072 (rA R 8) (rA R 6) (128 * wf) (128 * b) (by omega) (by omega) (by decide) r3.a8 (by decide) (by decide) (by omega) (by omega) hb8 r3.a6) cw_X12_190 w_2307 (Nat.le_of_ble_eq_true rfl) rfl (Nat.le_of_ble_eq_true rfl) (tbd tv_X12_writeDisk rfl) (fun v3 f3 q3 => ?_) (fun _ _ h => h.elim)
      obtain ⟨rfl, ea3⟩ := q3
      refine G.eqs [] rfl ?_
      have ra3 : RfV E f3 (setA (setS (rSt (R)) 13 ((rS R 13) + ((1 : Int32)))) 6 (va_cpy (rA R 8) (rA R 6) (128 * wf) (128 * b) 128)) := RfV.ar (r3.p6 _) ea3
      have fa3 : Fr RfK u3 f3 := Fr.ar ⟨by decide, by decide⟩ ea3
      refine G.go tv_X12_writeDisk 1 61 [(0, .ref (gAd E (56))), (1, .int (nI t)), (2, .ref (gAd E (63))), (3, .int (nI (128 * q)))] [.ref (gAd E (56))] rfl ?_
      refine G.rg ra3 hE 40 (.ref (gAd E (77))) (by decide) rfl (tbd tv_X12_writeDisk rfl) w_2105 ?_
      refine G.go tv_X12_writeDisk 1 65 [(0, .ref (gAd E (56))), (1, .int (nI t)), (2, .ref (gAd E (63))), (3, .int (nI (128 * q)))] [.ref (gAd E (56)), .ref (gAd E (77))] rfl ?_
      refine G.rg ra3 hE 7 (.ref (gAd E (59))) (by decide) rfl (tbd tv_X12_writeDisk rfl) w_2072 ?_
      refine G.go tv_X12_writeDisk 1 69 [(0, .ref (gAd E (56))), (1, .int (nI t)), (2, .ref (gAd E (63))), (3, .int (nI (128 * q)))] [.ref (gAd E (56)), .ref (gAd E (59)), .ref (gAd E (77))] rfl ?_
      refine G.rg ra3 hE 9 (.int (rS R 9)) (by decide) rfl (tbd tv_X12_writeDisk rfl) w_2074 ?_
      refine G.eqs [.int (nI wf), .ref (gAd E (59)), .ref (gAd E (77))] (by rw [hwf]) ?_
      refine G.ialdN (59) (wf) (by omega) (ra3.a7) (hwf2) (by decide) (tbd tv_X12_writeDisk rfl) ?_
      refine G.eqs [.int ((rA R 7) (wf)), .ref (gAd E (77))] rfl ?_
      refine G.eqs [.int (nI b), .ref (gAd E (77))] (by rw [hb]) ?_
      refine G.ialdN (77) (b) (by omega) (ra3.a40) (hb1) (by decide) (tbd tv_X12_writeDisk rfl) ?_
      refine G.go tv_X12_writeDisk 1 75 [(0, .ref (gAd E (56))), (1, .int (nI t)), (2, .ref (gAd E (63))), (3, .int (nI (128 * q)))] [.ref (gAd E (56)), .int ((rA R 40) (b))] rfl ?_
      refine G.rg ra3 hE 9 (.int (rS R 9)) (by decide) rfl (tbd tv_X12_writeDisk rfl) w_2074 ?_
      refine G.eqs [.int (nI wf), .int ((rA R 40) (b))] (by rw [hwf]) ?_
      refine G.cmp_ne 96 (tbd tv_X12_writeDisk rfl) (by decide) (fun c78 => ?_) (fun c78 => ?_)
      · skip
        refine G.go tv_X12_writeDisk 2 98 [(0, .ref (gAd E (56))), (1, .int (nI t)), (2, .ref (gAd E (63))), (3, .int (nI (128 * q)))] [.ref (gAd E (56)), .ref (gAd E (56))] rfl ?_
        refine G.rg ra3 hE 9 (.int (rS R 9)) (by decide) rfl (tbd tv_X12_writeDisk rfl) w_2074 ?_
        refine G.eqs [.int (nI wf), .ref (gAd E (56))] (by rw [hwf]) ?_
        refine G.go tv_X12_writeDisk 3 106 [(0, .ref (gAd E (56))), (1, .int (nI t)), (2, .ref (gAd E (63))), (3, .int (nI (128 * q)))] [.int ((256 : Int32)), .int ((nI wf) + ((1 : Int32))), .ref (gAd E (56))] rfl ?_
        refine G.irem (by decide) (tbd tv_X12_writeDisk rfl) ?_
        refine G.eqs [.int (nI ((wf + 1) % 256)), .ref (gAd E (56))] (by rw [nI_1, show (256 : Int32) = nI 256 from rfl, pk_rem (by omega) (by omega) (by omega)]) ?_
        refine G.rp ra3 hE 9 (setS (setA (setS (rSt (R)) 13 ((rS R 13) + ((1 : Int32)))) 6 (va_cpy (rA R 8) (rA R 6) (128 * wf) (128 * b) 128)) 9 (nI ((wf + 1) % 256))) rfl rfl (by decide) rfl rfl rfl (tbd tv_X12_writeDisk rfl) w_2074 (fun u7 r7 h7 => ?_)
        refine G.go tv_X12_writeDisk 2 112 [(0, .ref (gAd E (56))), (1, .int (nI t)), (2, .ref (gAd E (63))), (3, .int (nI (128 * q)))] [.ref (gAd E (56)), .ref (gAd E (56))] rfl ?_
        refine G.rg r7 hE 10 (.int (rS R 10)) (by decide) rfl (tbd tv_X12_writeDisk rfl) w_2075 ?_
        refine G.eqs [.int (nI w), .ref (gAd E (56))] (by rw [hnw]) ?_
        refine G.go tv_X12_writeDisk 2 117 [(0, .ref (gAd E (56))), (1, .int (nI t)), (2, .ref (gAd E (63))), (3, .int (nI (128 * q)))] [.int ((nI w) - ((1 : Int32))), .ref (gAd E (56))] rfl ?_
        refine G.eqs [.int (nI 255), .ref (gAd E (56))] (by rw [hw]; rfl) ?_
        refine G.rp r7 hE 10 (setS (setS (setA (setS (rSt (R)) 13 ((rS R 13) + ((1 : Int32)))) 6 (va_cpy (rA R 8) (rA R 6) (128 * wf) (128 * b) 128)) 9 (nI ((wf + 1) % 256))) 10 (nI 255)) rfl rfl (by decide) rfl rfl rfl (tbd tv_X12_writeDisk rfl) w_2075 (fun u8 r8 h8 => ?_)
        refine G.go tv_X12_writeDisk 1 121 [(0, .ref (gAd E (56))), (1, .int (nI t)), (2, .ref (gAd E (63))), (3, .int (nI (128 * q)))] [.ref (gAd E (56))] rfl ?_
        refine G.rg r8 hE 9 (.int (nI ((wf + 1) % 256))) (by decide) rfl (tbd tv_X12_writeDisk rfl) w_2074 ?_
        refine G.go tv_X12_writeDisk 1 125 [(0, .ref (gAd E (56))), (1, .int (nI t)), (2, .ref (gAd E (63))), (3, .int (nI (128 * q)))] [.ref (gAd E (56)), .int (nI ((wf + 1) % 256))] rfl ?_
        refine G.rg r8 hE 10 (.int (nI 255)) (by decide) rfl (tbd tv_X12_writeDisk rfl) w_2075 ?_
        refine G.go tv_X12_writeDisk 2 132 [(0, .ref (gAd E (56))), (1, .int (nI t)), (2, .ref (gAd E (63))), (3, .int (nI (128 * q)))] [.int ((256 : Int32)), .int ((nI ((wf + 1) % 256)) + (nI 255))] rfl ?_
        refine G.irem (by decide) (tbd tv_X12_writeDisk rfl) ?_
        refine G.eqs [.int (nI (((wf + 1) % 256 + 255) % 256))] (by rw [nI_add, show (256 : Int32) = nI 256 from rfl, pk_rem (by omega) (by omega) (by omega)]) ?_
        refine G.go tv_X12_writeDisk 2 136 [(0, .ref (gAd E (56))), (1, .int (nI t)), (2, .ref (gAd E (63))), (3, .int (nI (128 * q))), (4, .int (nI (((wf + 1) % 256 + 255) % 256)))] [.ref (gAd E (56))] rfl ?_
        refine G.rg r8 hE 7 (.ref (gAd E (59))) (by decide) rfl (tbd tv_X12_writeDisk rfl) w_2072 ?_
        refine G.go tv_X12_writeDisk 2 142 [(0, .ref (gAd E (56))), (1, .int (nI t)), (2, .ref (gAd E (63))), (3, .int (nI (128 * q))), (4, .int (nI (((wf + 1) % 256 + 255) % 256)))] [.int (nI t), .int (nI (((wf + 1) % 256 + 255) % 256)), .ref (gAd E (59))] rfl ?_
        refine G.raI (((wf + 1) % 256 + 255) % 256) hE ⟨by decide, by decide⟩ r8.a7 (r8.p7 _) (Nat.mod_lt _ (by decide)) (by decide) (tbd tv_X12_writeDisk rfl) (fun u9 r9 h9 => ?_)
        refine G.go tv_X12_writeDisk 3 146 [(0, .ref (gAd E (56))), (1, .int (nI t)), (2, .ref (gAd E (63))), (3, .int (nI (128 * q))), (4, .int (nI (((wf + 1) % 256 + 255) % 256)))] [.ref (gAd E (56)), .int (nI (128 * q)), .ref (gAd E (63))] rfl ?_
        refine G.rg r9 hE 8 (.ref (gAd E (60))) (by decide) rfl (tbd tv_X12_writeDisk rfl) w_2073 ?_
        refine G.go tv_X12_writeDisk 3 155 [(0, .ref (gAd E (56))), (1, .int (nI t)), (2, .ref (gAd E (63))), (3, .int (nI (128 * q))), (4, .int (nI (((wf + 1) % 256 + 255) % 256)))] [.int (((128 : Int32)) * (nI (((wf + 1) % 256 + 255) % 256))), .ref (gAd E (60)), .int (nI (128 * q)), .ref (gAd E (63))] rfl ?_
        refine G.eqs [.int (nI (128 * (((wf + 1) % 256 + 255) % 256))), .ref (gAd E (60)), .int (nI (128 * q)), .ref (gAd E (63))] (by rw [show (128 : Int32) = nI 128 from rfl, pk_mul]) ?_
        refine G.callS [.ref (gAd E (63)), .int (nI (128 * q)), .ref (gAd E (60)), .int (nI (128 * (((wf + 1) % 256 + 255) % 256)))] [] (c_X12_move E _ 63 8192 60 32768 (rA R 17) (rA R 8) (128 * q) (128 * (((wf + 1) % 256 + 255) % 256)) (by omega) (by omega) (by decide) r9.a17 (by decide) (by decide) (by omega) (by have := Nat.mod_lt ((wf + 1) % 256 + 255) (by decide : 0 < 256); omega) hb17 r9.a8) cw_X12_190 w_2307 (Nat.le_of_ble_eq_true rfl) rfl (Nat.le_of_ble_eq_true rfl) (tbd tv_X12_writeDisk rfl) (fun v4 f4 q4 => ?_) (fun _ _ h => h.elim)
        obtain ⟨rfl, ea4⟩ := q4
        refine G.eqs [] rfl ?_
        have ra4 : RfV E f4 (setA (setA (setS (setS (setA (setS (rSt (R)) 13 ((rS R 13) + ((1 : Int32)))) 6 (va_cpy (rA R 8) (rA R 6) (128 * wf) (128 * b) 128)) 9 (nI ((wf + 1) % 256))) 10 (nI 255)) 7 (upd (rA R 7) (((wf + 1) % 256 + 255) % 256) (nI t))) 8 (va_cpy (rA R 17) (rA R 8) (128 * q) (128 * (((wf + 1) % 256 + 255) % 256)) 128)) := RfV.ar (r9.p8 _) ea4
        have fa4 : Fr RfK u9 f4 := Fr.ar ⟨by decide, by decide⟩ ea4
        refine G.go tv_X12_writeDisk 1 159 [(0, .ref (gAd E (56))), (1, .int (nI t)), (2, .ref (gAd E (63))), (3, .int (nI (128 * q))), (4, .int (nI (((wf + 1) % 256 + 255) % 256)))] [.ref (gAd E (56))] rfl ?_
        refine G.rg ra4 hE 40 (.ref (gAd E (77))) (by decide) rfl (tbd tv_X12_writeDisk rfl) w_2105 ?_
        refine G.go tv_X12_writeDisk 2 165 [(0, .ref (gAd E (56))), (1, .int (nI t)), (2, .ref (gAd E (63))), (3, .int (nI (128 * q))), (4, .int (nI (((wf + 1) % 256 + 255) % 256)))] [.int (nI (((wf + 1) % 256 + 255) % 256)), .int (nI t), .ref (gAd E (77))] rfl ?_
        refine G.raI (t) hE ⟨by decide, by decide⟩ ra4.a40 (ra4.p40 _) (ht) (by decide) (tbd tv_X12_writeDisk rfl) (fun u10 r10 h10 => ?_)
        refine G.go tv_X12_writeDisk 2 168 [(0, .ref (gAd E (56))), (1, .int (nI t)), (2, .ref (gAd E (63))), (3, .int (nI (128 * q))), (4, .int (nI (((wf + 1) % 256 + 255) % 256)))] [.ref (gAd E (56)), .ref (gAd E (56))] rfl ?_
        refine G.rg r10 hE 10 (.int (nI 255)) (by decide) rfl (tbd tv_X12_writeDisk rfl) w_2075 ?_
        refine G.go tv_X12_writeDisk 2 173 [(0, .ref (gAd E (56))), (1, .int (nI t)), (2, .ref (gAd E (63))), (3, .int (nI (128 * q))), (4, .int (nI (((wf + 1) % 256 + 255) % 256)))] [.int ((nI 255) + ((1 : Int32))), .ref (gAd E (56))] rfl ?_
        refine G.eqs [.int (nI (255 + 1)), .ref (gAd E (56))] (rfl) ?_
        refine G.rp r10 hE 10 (setS (setA (setA (setA (setS (setS (setA (setS (rSt (R)) 13 ((rS R 13) + ((1 : Int32)))) 6 (va_cpy (rA R 8) (rA R 6) (128 * wf) (128 * b) 128)) 9 (nI ((wf + 1) % 256))) 10 (nI 255)) 7 (upd (rA R 7) (((wf + 1) % 256 + 255) % 256) (nI t))) 8 (va_cpy (rA R 17) (rA R 8) (128 * q) (128 * (((wf + 1) % 256 + 255) % 256)) 128)) 40 (upd (rA R 40) (t) (nI (((wf + 1) % 256 + 255) % 256)))) 10 (nI (255 + 1))) rfl rfl (by decide) rfl rfl rfl (tbd tv_X12_writeDisk rfl) w_2075 (fun u11 r11 h11 => ?_)
        exact G.vret rfl (Or.inr ⟨hc, rfl, by unfold rWrt; rw [if_pos hw]; rw [decide_eq_false c78]; exact r11, ((((((((fa1).tr h3 (fun _ h => h)).tr fa3 (fun _ h => h)).tr h7 (fun _ h => h)).tr h8 (fun _ h => h)).tr h9 (fun _ h => h)).tr fa4 (fun _ h => h)).tr h10 (fun _ h => h)).tr h11 (fun _ h => h)⟩) (tbd tv_X12_writeDisk rfl)
      · skip
        refine G.go tv_X12_writeDisk 1 82 [(0, .ref (gAd E (56))), (1, .int (nI t)), (2, .ref (gAd E (63))), (3, .int (nI (128 * q)))] [.ref (gAd E (56))] rfl ?_
        refine G.rg ra3 hE 40 (.ref (gAd E (77))) (by decide) rfl (tbd tv_X12_writeDisk rfl) w_2105 ?_
        refine G.go tv_X12_writeDisk 1 86 [(0, .ref (gAd E (56))), (1, .int (nI t)), (2, .ref (gAd E (63))), (3, .int (nI (128 * q)))] [.ref (gAd E (56)), .ref (gAd E (77))] rfl ?_
        refine G.rg ra3 hE 7 (.ref (gAd E (59))) (by decide) rfl (tbd tv_X12_writeDisk rfl) w_2072 ?_
        refine G.go tv_X12_writeDisk 1 90 [(0, .ref (gAd E (56))), (1, .int (nI t)), (2, .ref (gAd E (63))), (3, .int (nI (128 * q)))] [.ref (gAd E (56)), .ref (gAd E (59)), .ref (gAd E (77))] rfl ?_
        refine G.rg ra3 hE 9 (.int (rS R 9)) (by decide) rfl (tbd tv_X12_writeDisk rfl) w_2074 ?_
        refine G.eqs [.int (nI wf), .ref (gAd E (59)), .ref (gAd E (77))] (by rw [hwf]) ?_
        refine G.ialdN (59) (wf) (by omega) (ra3.a7) (hwf2) (by decide) (tbd tv_X12_writeDisk rfl) ?_
        refine G.eqs [.int ((rA R 7) (wf)), .ref (gAd E (77))] rfl ?_
        refine G.eqs [.int (nI b), .ref (gAd E (77))] (by rw [hb]) ?_
        refine G.go tv_X12_writeDisk 1 95 [(0, .ref (gAd E (56))), (1, .int (nI t)), (2, .ref (gAd E (63))), (3, .int (nI (128 * q)))] [.int ((-1 : Int32)), .int (nI b), .ref (gAd E (77))] rfl ?_
        refine G.raI (b) hE ⟨by decide, by decide⟩ ra3.a40 (ra3.p40 _) (hb1) (by decide) (tbd tv_X12_writeDisk rfl) (fun u12 r12 h12 => ?_)
        refine G.go tv_X12_writeDisk 2 98 [(0, .ref (gAd E (56))), (1, .int (nI t)), (2, .ref (gAd E (63))), (3, .int (nI (128 * q)))] [.ref (gAd E (56)), .ref (gAd E (56))] rfl ?_
        refine G.rg r12 hE 9 (.int (rS R 9)) (by decide) rfl (tbd tv_X12_writeDisk rfl) w_2074 ?_
        refine G.eqs [.int (nI wf), .ref (gAd E (56))] (by rw [hwf]) ?_
        refine G.go tv_X12_writeDisk 3 106 [(0, .ref (gAd E (56))), (1, .int (nI t)), (2, .ref (gAd E (63))), (3, .int (nI (128 * q)))] [.int ((256 : Int32)), .int ((nI wf) + ((1 : Int32))), .ref (gAd E (56))] rfl ?_
        refine G.irem (by decide) (tbd tv_X12_writeDisk rfl) ?_
        refine G.eqs [.int (nI ((wf + 1) % 256)), .ref (gAd E (56))] (by rw [nI_1, show (256 : Int32) = nI 256 from rfl, pk_rem (by omega) (by omega) (by omega)]) ?_
        refine G.rp r12 hE 9 (setS (setA (setA (setS (rSt (R)) 13 ((rS R 13) + ((1 : Int32)))) 6 (va_cpy (rA R 8) (rA R 6) (128 * wf) (128 * b) 128)) 40 (upd (rA R 40) (b) ((-1 : Int32)))) 9 (nI ((wf + 1) % 256))) rfl rfl (by decide) rfl rfl rfl (tbd tv_X12_writeDisk rfl) w_2074 (fun u13 r13 h13 => ?_)
        refine G.go tv_X12_writeDisk 2 112 [(0, .ref (gAd E (56))), (1, .int (nI t)), (2, .ref (gAd E (63))), (3, .int (nI (128 * q)))] [.ref (gAd E (56)), .ref (gAd E (56))] rfl ?_
        refine G.rg r13 hE 10 (.int (rS R 10)) (by decide) rfl (tbd tv_X12_writeDisk rfl) w_2075 ?_
        refine G.eqs [.int (nI w), .ref (gAd E (56))] (by rw [hnw]) ?_
        refine G.go tv_X12_writeDisk 2 117 [(0, .ref (gAd E (56))), (1, .int (nI t)), (2, .ref (gAd E (63))), (3, .int (nI (128 * q)))] [.int ((nI w) - ((1 : Int32))), .ref (gAd E (56))] rfl ?_
        refine G.eqs [.int (nI 255), .ref (gAd E (56))] (by rw [hw]; rfl) ?_
        refine G.rp r13 hE 10 (setS (setS (setA (setA (setS (rSt (R)) 13 ((rS R 13) + ((1 : Int32)))) 6 (va_cpy (rA R 8) (rA R 6) (128 * wf) (128 * b) 128)) 40 (upd (rA R 40) (b) ((-1 : Int32)))) 9 (nI ((wf + 1) % 256))) 10 (nI 255)) rfl rfl (by decide) rfl rfl rfl (tbd tv_X12_writeDisk rfl) w_2075 (fun u14 r14 h14 => ?_)
        refine G.go tv_X12_writeDisk 1 121 [(0, .ref (gAd E (56))), (1, .int (nI t)), (2, .ref (gAd E (63))), (3, .int (nI (128 * q)))] [.ref (gAd E (56))] rfl ?_
        refine G.rg r14 hE 9 (.int (nI ((wf + 1) % 256))) (by decide) rfl (tbd tv_X12_writeDisk rfl) w_2074 ?_
        refine G.go tv_X12_writeDisk 1 125 [(0, .ref (gAd E (56))), (1, .int (nI t)), (2, .ref (gAd E (63))), (3, .int (nI (128 * q)))] [.ref (gAd E (56)), .int (nI ((wf + 1) % 256))] rfl ?_
        refine G.rg r14 hE 10 (.int (nI 255)) (by decide) rfl (tbd tv_X12_writeDisk rfl) w_2075 ?_
        refine G.go tv_X12_writeDisk 2 132 [(0, .ref (gAd E (56))), (1, .int (nI t)), (2, .ref (gAd E (63))), (3, .int (nI (128 * q)))] [.int ((256 : Int32)), .int ((nI ((wf + 1) % 256)) + (nI 255))] rfl ?_
        refine G.irem (by decide) (tbd tv_X12_writeDisk rfl) ?_
        refine G.eqs [.int (nI (((wf + 1) % 256 + 255) % 256))] (by rw [nI_add, show (256 : Int32) = nI 256 from rfl, pk_rem (by omega) (by omega) (by omega)]) ?_
        refine G.go tv_X12_writeDisk 2 136 [(0, .ref (gAd E (56))), (1, .int (nI t)), (2, .ref (gAd E (63))), (3, .int (nI (128 * q))), (4, .int (nI (((wf + 1) % 256 + 255) % 256)))] [.ref (gAd E (56))] rfl ?_
        refine G.rg r14 hE 7 (.ref (gAd E (59))) (by decide) rfl (tbd tv_X12_writeDisk rfl) w_2072 ?_
        refine G.go tv_X12_writeDisk 2 142 [(0, .ref (gAd E (56))), (1, .int (nI t)), (2, .ref (gAd E (63))), (3, .int (nI (128 * q))), (4, .int (nI (((wf + 1) % 256 + 255) % 256)))] [.int (nI t), .int (nI (((wf + 1) % 256 + 255) % 256)), .ref (gAd E (59))] rfl ?_
        refine G.raI (((wf + 1) % 256 + 255) % 256) hE ⟨by decide, by decide⟩ r14.a7 (r14.p7 _) (Nat.mod_lt _ (by decide)) (by decide) (tbd tv_X12_writeDisk rfl) (fun u15 r15 h15 => ?_)
        refine G.go tv_X12_writeDisk 3 146 [(0, .ref (gAd E (56))), (1, .int (nI t)), (2, .ref (gAd E (63))), (3, .int (nI (128 * q))), (4, .int (nI (((wf + 1) % 256 + 255) % 256)))] [.ref (gAd E (56)), .int (nI (128 * q)), .ref (gAd E (63))] rfl ?_
        refine G.rg r15 hE 8 (.ref (gAd E (60))) (by decide) rfl (tbd tv_X12_writeDisk rfl) w_2073 ?_
        refine G.go tv_X12_writeDisk 3 155 [(0, .ref (gAd E (56))), (1, .int (nI t)), (2, .ref (gAd E (63))), (3, .int (nI (128 * q))), (4, .int (nI (((wf + 1) % 256 + 255) % 256)))] [.int (((128 : Int32)) * (nI (((wf + 1) % 256 + 255) % 256))), .ref (gAd E (60)), .int (nI (128 * q)), .ref (gAd E (63))] rfl ?_
        refine G.eqs [.int (nI (128 * (((wf + 1) % 256 + 255) % 256))), .ref (gAd E (60)), .int (nI (128 * q)), .ref (gAd E (63))] (by rw [show (128 : Int32) = nI 128 from rfl, pk_mul]) ?_
        refine G.callS [.ref (gAd E (63)), .int (nI (128 * q)), .ref (gAd E (60)), .int (nI (128 * (((wf + 1) % 256 + 255) % 256)))] [] (c_X12_move E _ 63 8192 60 32768 (rA R 17) (rA R 8) (128 * q) (128 * (((wf + 1) % 256 + 255) % 256)) (by omega) (by omega) (by decide) r15.a17 (by decide) (by decide) (by omega) (by have := Nat.mod_lt ((wf + 1) % 256 + 255) (by decide : 0 < 256); omega) hb17 r15.a8) cw_X12_190 w_2307 (Nat.le_of_ble_eq_true rfl) rfl (Nat.le_of_ble_eq_true rfl) (tbd tv_X12_writeDisk rfl) (fun v5 f5 q5 => ?_) (fun _ _ h => h.elim)
        obtain ⟨rfl, ea5⟩ := q5
        refine G.eqs [] rfl ?_
        have ra5 : RfV E f5 (setA (setA (setS (setS (setA (setA (setS (rSt (R)) 13 ((rS R 13) + ((1 : Int32)))) 6 (va_cpy (rA R 8) (rA R 6) (128 * wf) (128 * b) 128)) 40 (upd (rA R 40) (b) ((-1 : Int32)))) 9 (nI ((wf + 1) % 256))) 10 (nI 255)) 7 (upd (rA R 7) (((wf + 1) % 256 + 255) % 256) (nI t))) 8 (va_cpy (rA R 17) (rA R 8) (128 * q) (128 * (((wf + 1) % 256 + 255) % 256)) 128)) := RfV.ar (r15.p8 _) ea5
        have fa5 : Fr RfK u15 f5 := Fr.ar ⟨by decide, by decide⟩ ea5
        refine G.go tv_X12_writeDisk 1 159 [(0, .ref (gAd E (56))), (1, .int (nI t)), (2, .ref (gAd E (63))), (3, .int (nI (128 * q))), (4, .int (nI (((wf + 1) % 256 + 255) % 256)))] [.ref (gAd E (56))] rfl ?_
        refine G.rg ra5 hE 40 (.ref (gAd E (77))) (by decide) rfl (tbd tv_X12_writeDisk rfl) w_2105 ?_
        refine G.go tv_X12_writeDisk 2 165 [(0, .ref (gAd E (56))), (1, .int (nI t)), (2, .ref (gAd E (63))), (3, .int (nI (128 * q))), (4, .int (nI (((wf + 1) % 256 + 255) % 256)))] [.int (nI (((wf + 1) % 256 + 255) % 256)), .int (nI t), .ref (gAd E (77))] rfl ?_
        refine G.raI (t) hE ⟨by decide, by decide⟩ ra5.a40 (ra5.p40 _) (ht) (by decide) (tbd tv_X12_writeDisk rfl) (fun u16 r16 h16 => ?_)
        refine G.go tv_X12_writeDisk 2 168 [(0, .ref (gAd E (56))), (1, .int (nI t)), (2, .ref (gAd E (63))), (3, .int (nI (128 * q))), (4, .int (nI (((wf + 1) % 256 + 255) % 256)))] [.ref (gAd E (56)), .ref (gAd E (56))] rfl ?_
        refine G.rg r16 hE 10 (.int (nI 255)) (by decide) rfl (tbd tv_X12_writeDisk rfl) w_2075 ?_
        refine G.go tv_X12_writeDisk 2 173 [(0, .ref (gAd E (56))), (1, .int (nI t)), (2, .ref (gAd E (63))), (3, .int (nI (128 * q))), (4, .int (nI (((wf + 1) % 256 + 255) % 256)))] [.int ((nI 255) + ((1 : Int32))), .ref (gAd E (56))] rfl ?_
        refine G.eqs [.int (nI (255 + 1)), .ref (gAd E (56))] (rfl) ?_
        refine G.rp r16 hE 10 (setS (setA (setA (setA (setS (setS (setA (setA (setS (rSt (R)) 13 ((rS R 13) + ((1 : Int32)))) 6 (va_cpy (rA R 8) (rA R 6) (128 * wf) (128 * b) 128)) 40 (upd (rA R 40) (b) ((-1 : Int32)))) 9 (nI ((wf + 1) % 256))) 10 (nI 255)) 7 (upd (rA R 7) (((wf + 1) % 256 + 255) % 256) (nI t))) 8 (va_cpy (rA R 17) (rA R 8) (128 * q) (128 * (((wf + 1) % 256 + 255) % 256)) 128)) 40 (upd (upd (rA R 40) (b) ((-1 : Int32))) (t) (nI (((wf + 1) % 256 + 255) % 256)))) 10 (nI (255 + 1))) rfl rfl (by decide) rfl rfl rfl (tbd tv_X12_writeDisk rfl) w_2075 (fun u17 r17 h17 => ?_)
        exact G.vret rfl (Or.inr ⟨hc, rfl, by unfold rWrt; rw [if_pos hw]; rw [decide_eq_true c78]; exact r17, (((((((((fa1).tr h3 (fun _ h => h)).tr fa3 (fun _ h => h)).tr h12 (fun _ h => h)).tr h13 (fun _ h => h)).tr h14 (fun _ h => h)).tr h15 (fun _ h => h)).tr fa5 (fun _ h => h)).tr h16 (fun _ h => h)).tr h17 (fun _ h => h)⟩) (tbd tv_X12_writeDisk rfl)
