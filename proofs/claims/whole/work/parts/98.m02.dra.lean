def tb_X12_lookUp : List (Nat × Instr × Nat) := [(0, .iload_n 2, 1), (1, .ifCond .eq 38, 3), (4, .aload_n 0, 1), (5, .getfield 71, 3), (8, .iload_n 1, 1), (9, .iaload, 1), (10, .iconst (-1), 1), (11, .if_icmp .eq 28, 3), (14, .aload_n 0, 1), (15, .aload_n 0, 1), (16, .getfield 65, 3), (19, .putfield 226, 3), (22, .aload_n 0, 1), (23, .sipush 128, 3), (26, .aload_n 0, 1), (27, .getfield 71, 3), (30, .iload_n 1, 1), (31, .iaload, 1), (32, .imul, 1), (33, .putfield 229, 3), (36, .goto 160, 3), (39, .aload_n 0, 1), (40, .getfield 74, 3), (43, .iload_n 1, 1), (44, .iaload, 1), (45, .iconst (-1), 1), (46, .if_icmp .eq 28, 3), (49, .aload_n 0, 1), (50, .aload_n 0, 1), (51, .getfield 55, 3), (54, .putfield 226, 3), (57, .aload_n 0, 1), (58, .sipush 128, 3), (61, .aload_n 0, 1), (62, .getfield 74, 3), (65, .iload_n 1, 1), (66, .iaload, 1), (67, .imul, 1), (68, .putfield 229, 3), (71, .goto 125, 3), (74, .aload_n 0, 1), (75, .getfield 77, 3), (78, .iload_n 1, 1), (79, .iaload, 1), (80, .iconst (-1), 1), (81, .if_icmp .eq 28, 3), (84, .aload_n 0, 1), (85, .aload_n 0, 1), (86, .getfield 46, 3), (89, .putfield 226, 3), (92, .aload_n 0, 1), (93, .sipush 128, 3), (96, .aload_n 0, 1), (97, .getfield 77, 3), (100, .iload_n 1, 1), (101, .iaload, 1), (102, .imul, 1), (103, .putfield 229, 3), (106, .goto 90, 3), (109, .aload_n 0, 1), (110, .getfield 80, 3), (113, .iload_n 1, 1), (114, .iaload, 1), (115, .iconst (-1), 1), (116, .if_icmp .eq 28, 3), (119, .aload_n 0, 1), (120, .aload_n 0, 1), (121, .getfield 40, 3), (124, .putfield 226, 3), (127, .aload_n 0, 1), (128, .sipush 128, 3), (131, .aload_n 0, 1), (132, .getfield 80, 3), (135, .iload_n 1, 1), (136, .iaload, 1), (137, .imul, 1), (138, .putfield 229, 3), (141, .goto 55, 3), (144, .aload_n 0, 1), (145, .getfield 83, 3), (148, .iload_n 1, 1), (149, .iaload, 1), (150, .iconst (-1), 1), (151, .if_icmp .eq 28, 3), (154, .aload_n 0, 1), (155, .aload_n 0, 1), (156, .getfield 22, 3), (159, .putfield 226, 3), (162, .aload_n 0, 1), (163, .sipush 128, 3), (166, .aload_n 0, 1), (167, .getfield 83, 3), (170, .iload_n 1, 1), (171, .iaload, 1), (172, .imul, 1), (173, .putfield 229, 3), (176, .goto 20, 3), (179, .aload_n 0, 1), (180, .aload_n 0, 1), (181, .getfield 14, 3), (184, .putfield 226, 3), (187, .aload_n 0, 1), (188, .sipush 128, 3), (191, .iload_n 1, 1), (192, .imul, 1), (193, .putfield 229, 3), (196, .return_, 1)]
theorem tv_X12_lookUp : Tv cX12_lookUp tb_X12_lookUp := by
  unfold Tv
  decide +kernel
theorem w_2106 : Cond.fieldLink "LedgerFilesModel" 226 "LedgerFilesModel" "seenRow" "[B" ∈ TB := tp_9 40 (by decide +kernel) rfl
theorem w_2107 : Cond.fieldLink "LedgerFilesModel" 229 "LedgerFilesModel" "seenAt" "I" ∈ TB := tp_9 41 (by decide +kernel) rfl
def e_lookUp_39 (R : RfT) (x1 : Int32) : Option (Nat × Int32) := ld (rA R 37) 1024 x1 (fun v5 => if v5 = ((-1 : Int32)) then ld (rA R 38) 1024 x1 (fun v6 => if v6 = ((-1 : Int32)) then ld (rA R 39) 1024 x1 (fun v7 => if v7 = ((-1 : Int32)) then ld (rA R 40) 1024 x1 (fun v8 => if v8 = ((-1 : Int32)) then some (58, (((128 : Int32)) * (x1))) else ld (rA R 40) 1024 x1 (fun v12 => some (60, (((128 : Int32)) * (v12))))) else ld (rA R 39) 1024 x1 (fun v15 => some (63, (((128 : Int32)) * (v15))))) else ld (rA R 38) 1024 x1 (fun v18 => some (65, (((128 : Int32)) * (v18))))) else ld (rA R 37) 1024 x1 (fun v21 => some (68, (((128 : Int32)) * (v21)))))
def e_lookUp (R : RfT) (a0 : Int32) (a1 : Int32) : Option (Nat × Int32) := if a1 = 0 then e_lookUp_39 R a0 else ld (rA R 36) 1024 a0 (fun v1 => if v1 = ((-1 : Int32)) then e_lookUp_39 R a0 else ld (rA R 36) 1024 a0 (fun v3 => some (71, (((128 : Int32)) * (v3)))))
set_option maxRecDepth 100000 in
set_option maxHeartbeats 4000000 in
theorem l_X12_lookUp_39 (E : gE) (f0 : Nat → va_E) (sz : Nat) (QA : Nat → Prop) (hE : 94 ≤ gN E) (R : RfT) : ∀ (x1 : Int32) (k9 : Nat) (v9 : Int32) (hr : e_lookUp_39 R x1 = some (k9, v9)) (f : Nat → va_E) (w : RW E f R) (hf : Fr RfK f0 f), G E (1, yX12_lookUp, 3, none, sz, QA) cX12_lookUp (gO E (1, yX12_lookUp, 3, none, sz, QA) (fun v g => v = none ∧ RfV E g (setSr (setS R 42 v9) (.ref (gAd E (k9)))) ∧ Fr RfK f0 g, fun _ _ => False)) 39 [(0, .ref (gAd E (56))), (1, .int (x1))] [] f := by
  intro x1 k9 v9 hr f w hf
  obtain ⟨az, sy, r0⟩ := w
  unfold e_lookUp_39 at hr
  refine G.go tv_X12_lookUp 1 40 [(0, .ref (gAd E (56))), (1, .int (x1))] [.ref (gAd E (56))] rfl ?_
  refine G.rg r0 hE 37 (.ref (gAd E (74))) (by decide) rfl (tbd tv_X12_lookUp rfl) w_2102 ?_
  refine G.go tv_X12_lookUp 1 44 [(0, .ref (gAd E (56))), (1, .int (x1))] [.int (x1), .ref (gAd E (74))] rfl ?_
  obtain ⟨v5, b5, e5, hr⟩ := ld_s hr
  refine G.ialdE (74) (by omega) (r0.a37) b5 e5 (tbd tv_X12_lookUp rfl) ?_
  refine G.go tv_X12_lookUp 1 46 [(0, .ref (gAd E (56))), (1, .int (x1))] [.int ((-1 : Int32)), .int (v5)] rfl ?_
  refine G.cmp_eq 74 (tbd tv_X12_lookUp rfl) (by decide) (fun c46 => ?_) (fun c46 => ?_)
  · replace hr := ite_t c46 hr
    refine G.go tv_X12_lookUp 1 75 [(0, .ref (gAd E (56))), (1, .int (x1))] [.ref (gAd E (56))] rfl ?_
    refine G.rg r0 hE 38 (.ref (gAd E (75))) (by decide) rfl (tbd tv_X12_lookUp rfl) w_2103 ?_
    refine G.go tv_X12_lookUp 1 79 [(0, .ref (gAd E (56))), (1, .int (x1))] [.int (x1), .ref (gAd E (75))] rfl ?_
    obtain ⟨v6, b6, e6, hr⟩ := ld_s hr
    refine G.ialdE (75) (by omega) (r0.a38) b6 e6 (tbd tv_X12_lookUp rfl) ?_
    refine G.go tv_X12_lookUp 1 81 [(0, .ref (gAd E (56))), (1, .int (x1))] [.int ((-1 : Int32)), .int (v6)] rfl ?_
    refine G.cmp_eq 109 (tbd tv_X12_lookUp rfl) (by decide) (fun c81 => ?_) (fun c81 => ?_)
    · replace hr := ite_t c81 hr
      refine G.go tv_X12_lookUp 1 110 [(0, .ref (gAd E (56))), (1, .int (x1))] [.ref (gAd E (56))] rfl ?_
      refine G.rg r0 hE 39 (.ref (gAd E (76))) (by decide) rfl (tbd tv_X12_lookUp rfl) w_2104 ?_
      refine G.go tv_X12_lookUp 1 114 [(0, .ref (gAd E (56))), (1, .int (x1))] [.int (x1), .ref (gAd E (76))] rfl ?_
      obtain ⟨v7, b7, e7, hr⟩ := ld_s hr
      refine G.ialdE (76) (by omega) (r0.a39) b7 e7 (tbd tv_X12_lookUp rfl) ?_
      refine G.go tv_X12_lookUp 1 116 [(0, .ref (gAd E (56))), (1, .int (x1))] [.int ((-1 : Int32)), .int (v7)] rfl ?_
      refine G.cmp_eq 144 (tbd tv_X12_lookUp rfl) (by decide) (fun c116 => ?_) (fun c116 => ?_)
      · replace hr := ite_t c116 hr
        refine G.go tv_X12_lookUp 1 145 [(0, .ref (gAd E (56))), (1, .int (x1))] [.ref (gAd E (56))] rfl ?_
        refine G.rg r0 hE 40 (.ref (gAd E (77))) (by decide) rfl (tbd tv_X12_lookUp rfl) w_2105 ?_
        refine G.go tv_X12_lookUp 1 149 [(0, .ref (gAd E (56))), (1, .int (x1))] [.int (x1), .ref (gAd E (77))] rfl ?_
        obtain ⟨v8, b8, e8, hr⟩ := ld_s hr
        refine G.ialdE (77) (by omega) (r0.a40) b8 e8 (tbd tv_X12_lookUp rfl) ?_
        refine G.go tv_X12_lookUp 1 151 [(0, .ref (gAd E (56))), (1, .int (x1))] [.int ((-1 : Int32)), .int (v8)] rfl ?_
        refine G.cmp_eq 179 (tbd tv_X12_lookUp rfl) (by decide) (fun c151 => ?_) (fun c151 => ?_)
        · replace hr := ite_t c151 hr
          refine G.go tv_X12_lookUp 2 181 [(0, .ref (gAd E (56))), (1, .int (x1))] [.ref (gAd E (56)), .ref (gAd E (56))] rfl ?_
          refine G.rg r0 hE 6 (.ref (gAd E (58))) (by decide) rfl (tbd tv_X12_lookUp rfl) w_2071 ?_
          refine G.rp r0 hE 41 (setSr (setSr (setS R 42 az) sy) (.ref (gAd E (58)))) rfl rfl (by decide) rfl rfl rfl (tbd tv_X12_lookUp rfl) w_2106 (fun u9 r9 h9 => ?_)
          replace r9 : RfV E u9 (setSr (setS R 42 az) (.ref (gAd E (58)))) := r9
          refine G.go tv_X12_lookUp 4 193 [(0, .ref (gAd E (56))), (1, .int (x1))] [.int (((128 : Int32)) * (x1)), .ref (gAd E (56))] rfl ?_
          refine G.rp r9 hE 42 (setS (setSr (setS R 42 az) (.ref (gAd E (58)))) 42 (((128 : Int32)) * (x1))) rfl rfl (by decide) rfl rfl rfl (tbd tv_X12_lookUp rfl) w_2107 (fun u10 r10 h10 => ?_)
          replace r10 : RfV E u10 (setSr (setS R 42 (((128 : Int32)) * (x1))) (.ref (gAd E (58)))) := r10.cast (by show setSr (setS (setS R 42 az) 42 (((128 : Int32)) * (x1))) (.ref (gAd E (58))) = _; rw [setS_S])
          cases hr
          exact G.vret rfl ⟨rfl, r10, ((hf.tr h9 (fun _ h => h)).tr h10 (fun _ h => h))⟩ (tbd tv_X12_lookUp rfl)
        · replace hr := ite_f c151 hr
          refine G.go tv_X12_lookUp 2 156 [(0, .ref (gAd E (56))), (1, .int (x1))] [.ref (gAd E (56)), .ref (gAd E (56))] rfl ?_
          refine G.rg r0 hE 8 (.ref (gAd E (60))) (by decide) rfl (tbd tv_X12_lookUp rfl) w_2073 ?_
          refine G.rp r0 hE 41 (setSr (setSr (setS R 42 az) sy) (.ref (gAd E (60)))) rfl rfl (by decide) rfl rfl rfl (tbd tv_X12_lookUp rfl) w_2106 (fun u11 r11 h11 => ?_)
          replace r11 : RfV E u11 (setSr (setS R 42 az) (.ref (gAd E (60)))) := r11
          refine G.go tv_X12_lookUp 3 167 [(0, .ref (gAd E (56))), (1, .int (x1))] [.ref (gAd E (56)), .int ((128 : Int32)), .ref (gAd E (56))] rfl ?_
          refine G.rg r11 hE 40 (.ref (gAd E (77))) (by decide) rfl (tbd tv_X12_lookUp rfl) w_2105 ?_
          refine G.go tv_X12_lookUp 1 171 [(0, .ref (gAd E (56))), (1, .int (x1))] [.int (x1), .ref (gAd E (77)), .int ((128 : Int32)), .ref (gAd E (56))] rfl ?_
          obtain ⟨v12, b12, e12, hr⟩ := ld_s hr
          refine G.ialdE (77) (by omega) (r11.a40) b12 e12 (tbd tv_X12_lookUp rfl) ?_
          refine G.go tv_X12_lookUp 1 173 [(0, .ref (gAd E (56))), (1, .int (x1))] [.int (((128 : Int32)) * (v12)), .ref (gAd E (56))] rfl ?_
          refine G.rp r11 hE 42 (setS (setSr (setS R 42 az) (.ref (gAd E (60)))) 42 (((128 : Int32)) * (v12))) rfl rfl (by decide) rfl rfl rfl (tbd tv_X12_lookUp rfl) w_2107 (fun u13 r13 h13 => ?_)
          replace r13 : RfV E u13 (setSr (setS R 42 (((128 : Int32)) * (v12))) (.ref (gAd E (60)))) := r13.cast (by show setSr (setS (setS R 42 az) 42 (((128 : Int32)) * (v12))) (.ref (gAd E (60))) = _; rw [setS_S])
          refine G.go tv_X12_lookUp 1 196 [(0, .ref (gAd E (56))), (1, .int (x1))] [] rfl ?_
          cases hr
          exact G.vret rfl ⟨rfl, r13, ((hf.tr h11 (fun _ h => h)).tr h13 (fun _ h => h))⟩ (tbd tv_X12_lookUp rfl)
      · replace hr := ite_f c116 hr
        refine G.go tv_X12_lookUp 2 121 [(0, .ref (gAd E (56))), (1, .int (x1))] [.ref (gAd E (56)), .ref (gAd E (56))] rfl ?_
        refine G.rg r0 hE 17 (.ref (gAd E (63))) (by decide) rfl (tbd tv_X12_lookUp rfl) w_2082 ?_
        refine G.rp r0 hE 41 (setSr (setSr (setS R 42 az) sy) (.ref (gAd E (63)))) rfl rfl (by decide) rfl rfl rfl (tbd tv_X12_lookUp rfl) w_2106 (fun u14 r14 h14 => ?_)
        replace r14 : RfV E u14 (setSr (setS R 42 az) (.ref (gAd E (63)))) := r14
        refine G.go tv_X12_lookUp 3 132 [(0, .ref (gAd E (56))), (1, .int (x1))] [.ref (gAd E (56)), .int ((128 : Int32)), .ref (gAd E (56))] rfl ?_
        refine G.rg r14 hE 39 (.ref (gAd E (76))) (by decide) rfl (tbd tv_X12_lookUp rfl) w_2104 ?_
        refine G.go tv_X12_lookUp 1 136 [(0, .ref (gAd E (56))), (1, .int (x1))] [.int (x1), .ref (gAd E (76)), .int ((128 : Int32)), .ref (gAd E (56))] rfl ?_
        obtain ⟨v15, b15, e15, hr⟩ := ld_s hr
        refine G.ialdE (76) (by omega) (r14.a39) b15 e15 (tbd tv_X12_lookUp rfl) ?_
        refine G.go tv_X12_lookUp 1 138 [(0, .ref (gAd E (56))), (1, .int (x1))] [.int (((128 : Int32)) * (v15)), .ref (gAd E (56))] rfl ?_
        refine G.rp r14 hE 42 (setS (setSr (setS R 42 az) (.ref (gAd E (63)))) 42 (((128 : Int32)) * (v15))) rfl rfl (by decide) rfl rfl rfl (tbd tv_X12_lookUp rfl) w_2107 (fun u16 r16 h16 => ?_)
        replace r16 : RfV E u16 (setSr (setS R 42 (((128 : Int32)) * (v15))) (.ref (gAd E (63)))) := r16.cast (by show setSr (setS (setS R 42 az) 42 (((128 : Int32)) * (v15))) (.ref (gAd E (63))) = _; rw [setS_S])
        refine G.go tv_X12_lookUp 1 196 [(0, .ref (gAd E (56))), (1, .int (x1))] [] rfl ?_
        cases hr
        exact G.vret rfl ⟨rfl, r16, ((hf.tr h14 (fun _ h => h)).tr h16 (fun _ h => h))⟩ (tbd tv_X12_lookUp rfl)
    · replace hr := ite_f c81 hr
      refine G.go tv_X12_lookUp 2 86 [(0, .ref (gAd E (56))), (1, .int (x1))] [.ref (gAd E (56)), .ref (gAd E (56))] rfl ?_
      refine G.rg r0 hE 24 (.ref (gAd E (65))) (by decide) rfl (tbd tv_X12_lookUp rfl) w_2089 ?_
      refine G.rp r0 hE 41 (setSr (setSr (setS R 42 az) sy) (.ref (gAd E (65)))) rfl rfl (by decide) rfl rfl rfl (tbd tv_X12_lookUp rfl) w_2106 (fun u17 r17 h17 => ?_)
      replace r17 : RfV E u17 (setSr (setS R 42 az) (.ref (gAd E (65)))) := r17
      refine G.go tv_X12_lookUp 3 97 [(0, .ref (gAd E (56))), (1, .int (x1))] [.ref (gAd E (56)), .int ((128 : Int32)), .ref (gAd E (56))] rfl ?_
      refine G.rg r17 hE 38 (.ref (gAd E (75))) (by decide) rfl (tbd tv_X12_lookUp rfl) w_2103 ?_
      refine G.go tv_X12_lookUp 1 101 [(0, .ref (gAd E (56))), (1, .int (x1))] [.int (x1), .ref (gAd E (75)), .int ((128 : Int32)), .ref (gAd E (56))] rfl ?_
      obtain ⟨v18, b18, e18, hr⟩ := ld_s hr
      refine G.ialdE (75) (by omega) (r17.a38) b18 e18 (tbd tv_X12_lookUp rfl) ?_
      refine G.go tv_X12_lookUp 1 103 [(0, .ref (gAd E (56))), (1, .int (x1))] [.int (((128 : Int32)) * (v18)), .ref (gAd E (56))] rfl ?_
      refine G.rp r17 hE 42 (setS (setSr (setS R 42 az) (.ref (gAd E (65)))) 42 (((128 : Int32)) * (v18))) rfl rfl (by decide) rfl rfl rfl (tbd tv_X12_lookUp rfl) w_2107 (fun u19 r19 h19 => ?_)
      replace r19 : RfV E u19 (setSr (setS R 42 (((128 : Int32)) * (v18))) (.ref (gAd E (65)))) := r19.cast (by show setSr (setS (setS R 42 az) 42 (((128 : Int32)) * (v18))) (.ref (gAd E (65))) = _; rw [setS_S])
      refine G.go tv_X12_lookUp 1 196 [(0, .ref (gAd E (56))), (1, .int (x1))] [] rfl ?_
      cases hr
      exact G.vret rfl ⟨rfl, r19, ((hf.tr h17 (fun _ h => h)).tr h19 (fun _ h => h))⟩ (tbd tv_X12_lookUp rfl)
  · replace hr := ite_f c46 hr
    refine G.go tv_X12_lookUp 2 51 [(0, .ref (gAd E (56))), (1, .int (x1))] [.ref (gAd E (56)), .ref (gAd E (56))] rfl ?_
    refine G.rg r0 hE 28 (.ref (gAd E (68))) (by decide) rfl (tbd tv_X12_lookUp rfl) w_2093 ?_
    refine G.rp r0 hE 41 (setSr (setSr (setS R 42 az) sy) (.ref (gAd E (68)))) rfl rfl (by decide) rfl rfl rfl (tbd tv_X12_lookUp rfl) w_2106 (fun u20 r20 h20 => ?_)
    replace r20 : RfV E u20 (setSr (setS R 42 az) (.ref (gAd E (68)))) := r20
    refine G.go tv_X12_lookUp 3 62 [(0, .ref (gAd E (56))), (1, .int (x1))] [.ref (gAd E (56)), .int ((128 : Int32)), .ref (gAd E (56))] rfl ?_
    refine G.rg r20 hE 37 (.ref (gAd E (74))) (by decide) rfl (tbd tv_X12_lookUp rfl) w_2102 ?_
    refine G.go tv_X12_lookUp 1 66 [(0, .ref (gAd E (56))), (1, .int (x1))] [.int (x1), .ref (gAd E (74)), .int ((128 : Int32)), .ref (gAd E (56))] rfl ?_
    obtain ⟨v21, b21, e21, hr⟩ := ld_s hr
    refine G.ialdE (74) (by omega) (r20.a37) b21 e21 (tbd tv_X12_lookUp rfl) ?_
    refine G.go tv_X12_lookUp 1 68 [(0, .ref (gAd E (56))), (1, .int (x1))] [.int (((128 : Int32)) * (v21)), .ref (gAd E (56))] rfl ?_
    refine G.rp r20 hE 42 (setS (setSr (setS R 42 az) (.ref (gAd E (68)))) 42 (((128 : Int32)) * (v21))) rfl rfl (by decide) rfl rfl rfl (tbd tv_X12_lookUp rfl) w_2107 (fun u22 r22 h22 => ?_)
    replace r22 : RfV E u22 (setSr (setS R 42 (((128 : Int32)) * (v21))) (.ref (gAd E (68)))) := r22.cast (by show setSr (setS (setS R 42 az) 42 (((128 : Int32)) * (v21))) (.ref (gAd E (68))) = _; rw [setS_S])
    refine G.go tv_X12_lookUp 1 196 [(0, .ref (gAd E (56))), (1, .int (x1))] [] rfl ?_
    cases hr
    exact G.vret rfl ⟨rfl, r22, ((hf.tr h20 (fun _ h => h)).tr h22 (fun _ h => h))⟩ (tbd tv_X12_lookUp rfl)
set_option maxRecDepth 100000 in
set_option maxHeartbeats 4000000 in
theorem k_X12_lookUp (E : gE) (f : Nat → va_E) (hE : 94 ≤ gN E) (R : RfT) (w : RW E f R) (a0 : Int32) (a1 : Int32) (k9 : Nat) (v9 : Int32) (hr : e_lookUp R a0 a1 = some (k9, v9)) : Ct E 1 yX12_lookUp cX12_lookUp 3 none [.ref (gAd E (56)), .int (a0), .int (a1)] f (fun v g => v = none ∧ RfV E g (setSr (setS R 42 v9) (.ref (gAd E (k9)))) ∧ Fr RfK f g, fun _ _ => False) := by
  obtain ⟨az, sy, r0⟩ := w
  refine Ct.of (by decide) (Nat.le_of_ble_eq_true rfl) (fun sz => ?_)
  refine G.eql [(0, .ref (gAd E (56))), (1, .int (a0)), (2, .int (a1))] rfl ?_
  unfold e_lookUp at hr
  refine G.go tv_X12_lookUp 1 1 [(0, .ref (gAd E (56))), (1, .int (a0)), (2, .int (a1))] [.int (a1)] rfl ?_
  refine G.if_eq 39 (tbd tv_X12_lookUp rfl) (by decide) (fun c1 => ?_) (fun c1 => ?_)
  · replace hr := ite_t c1 hr
    refine G.less [(0, .ref (gAd E (56))), (1, .int (a0))] [0, 1] rfl ?_
    exact l_X12_lookUp_39 E f sz _ hE R _ _ _ hr _ ⟨_, _, r0⟩ Fr.rf
  · replace hr := ite_f c1 hr
    refine G.go tv_X12_lookUp 1 5 [(0, .ref (gAd E (56))), (1, .int (a0)), (2, .int (a1))] [.ref (gAd E (56))] rfl ?_
    refine G.rg r0 hE 36 (.ref (gAd E (73))) (by decide) rfl (tbd tv_X12_lookUp rfl) w_2101 ?_
    refine G.go tv_X12_lookUp 1 9 [(0, .ref (gAd E (56))), (1, .int (a0)), (2, .int (a1))] [.int (a0), .ref (gAd E (73))] rfl ?_
    obtain ⟨v1, b1, e1, hr⟩ := ld_s hr
    refine G.ialdE (73) (by omega) (r0.a36) b1 e1 (tbd tv_X12_lookUp rfl) ?_
    refine G.go tv_X12_lookUp 1 11 [(0, .ref (gAd E (56))), (1, .int (a0)), (2, .int (a1))] [.int ((-1 : Int32)), .int (v1)] rfl ?_
    refine G.cmp_eq 39 (tbd tv_X12_lookUp rfl) (by decide) (fun c11 => ?_) (fun c11 => ?_)
    · replace hr := ite_t c11 hr
      refine G.less [(0, .ref (gAd E (56))), (1, .int (a0))] [0, 1] rfl ?_
      exact l_X12_lookUp_39 E f sz _ hE R _ _ _ hr _ ⟨_, _, r0⟩ Fr.rf
    · replace hr := ite_f c11 hr
      refine G.go tv_X12_lookUp 2 16 [(0, .ref (gAd E (56))), (1, .int (a0)), (2, .int (a1))] [.ref (gAd E (56)), .ref (gAd E (56))] rfl ?_
      refine G.rg r0 hE 32 (.ref (gAd E (71))) (by decide) rfl (tbd tv_X12_lookUp rfl) w_2097 ?_
      refine G.rp r0 hE 41 (setSr (setSr (setS R 42 az) sy) (.ref (gAd E (71)))) rfl rfl (by decide) rfl rfl rfl (tbd tv_X12_lookUp rfl) w_2106 (fun u2 r2 h2 => ?_)
      replace r2 : RfV E u2 (setSr (setS R 42 az) (.ref (gAd E (71)))) := r2
      refine G.go tv_X12_lookUp 3 27 [(0, .ref (gAd E (56))), (1, .int (a0)), (2, .int (a1))] [.ref (gAd E (56)), .int ((128 : Int32)), .ref (gAd E (56))] rfl ?_
      refine G.rg r2 hE 36 (.ref (gAd E (73))) (by decide) rfl (tbd tv_X12_lookUp rfl) w_2101 ?_
      refine G.go tv_X12_lookUp 1 31 [(0, .ref (gAd E (56))), (1, .int (a0)), (2, .int (a1))] [.int (a0), .ref (gAd E (73)), .int ((128 : Int32)), .ref (gAd E (56))] rfl ?_
      obtain ⟨v3, b3, e3, hr⟩ := ld_s hr
      refine G.ialdE (73) (by omega) (r2.a36) b3 e3 (tbd tv_X12_lookUp rfl) ?_
      refine G.go tv_X12_lookUp 1 33 [(0, .ref (gAd E (56))), (1, .int (a0)), (2, .int (a1))] [.int (((128 : Int32)) * (v3)), .ref (gAd E (56))] rfl ?_
      refine G.rp r2 hE 42 (setS (setSr (setS R 42 az) (.ref (gAd E (71)))) 42 (((128 : Int32)) * (v3))) rfl rfl (by decide) rfl rfl rfl (tbd tv_X12_lookUp rfl) w_2107 (fun u4 r4 h4 => ?_)
      replace r4 : RfV E u4 (setSr (setS R 42 (((128 : Int32)) * (v3))) (.ref (gAd E (71)))) := r4.cast (by show setSr (setS (setS R 42 az) 42 (((128 : Int32)) * (v3))) (.ref (gAd E (71))) = _; rw [setS_S])
      refine G.go tv_X12_lookUp 1 196 [(0, .ref (gAd E (56))), (1, .int (a0)), (2, .int (a1))] [] rfl ?_
      cases hr
      exact G.vret rfl ⟨rfl, r4, ((Fr.rf.tr h2 (fun _ h => h)).tr h4 (fun _ h => h))⟩ (tbd tv_X12_lookUp rfl)
def tb_X12_seenNumber : List (Nat × Instr × Nat) := [(0, .aload_n 0, 1), (1, .iload_n 1, 1), (2, .iconst 1, 1), (3, .invokevirtual 222, 3), (6, .aload_n 0, 1), (7, .getfield 226, 3), (10, .aload_n 0, 1), (11, .getfield 229, 3), (14, .iload_n 2, 1), (15, .iadd, 1), (16, .iload_n 3, 1), (17, .invokestatic 232, 3), (20, .ireturn, 1)]
theorem tv_X12_seenNumber : Tv cX12_seenNumber tb_X12_seenNumber := by
  unfold Tv
  decide +kernel
theorem w_2382 : Cond.methodLink "LedgerFilesModel" 222 yX12_lookUp ∈ TB := tp_10 76 (by decide +kernel) rfl
theorem w_2385 : Cond.code yX12_lookUp prog_14_method_24_code 3 none ∈ TB := tp_10 79 rfl rfl
theorem cw_X12_222 : Cw RX12 222 yX12_lookUp cX12_lookUp 3 none 2 := ⟨w_2382, w_2385, w_161, by decide +kernel, by decide +kernel, by decide⟩
theorem w_2384 : Cond.instanceMethod yX12_lookUp ∈ TB := tp_10 78 (by decide +kernel) rfl
theorem w_77 : Cond.selects "LedgerFilesModel" yX12_lookUp yX12_lookUp ∈ TB := tp_0 77 (by decide +kernel) rfl
def tb_X12_number : List (Nat × Instr × Nat) := [(0, .iconst 0, 1), (1, .istore_n 3, 1), (2, .iload_n 2, 1), (3, .iconst 1, 1), (4, .isub, 1), (5, .istore 4, 2), (7, .iload 4, 2), (9, .ifCond .lt 25, 3), (12, .iload_n 3, 1), (13, .bipush 8, 2), (15, .ishl, 1), (16, .aload_n 0, 1), (17, .iload_n 1, 1), (18, .iload 4, 2), (20, .iadd, 1), (21, .baload, 1), (22, .sipush 255, 3), (25, .iand, 1), (26, .ior, 1), (27, .istore_n 3, 1), (28, .iinc 4 (-1), 3), (31, .goto (-24), 3), (34, .iload_n 3, 1), (35, .ireturn, 1)]
theorem tv_X12_number : Tv cX12_number tb_X12_number := by
  unfold Tv
  decide +kernel
def e_number_71_7 (R : RfT) : Nat → Int32 → Int32 → Int32 → Option (Int32)
  | 0, _, _, _ => none
  | n + 1, x1, x3, x4 => if x4 < 0 then some x3 else ld (rA R 32) 131072 ((x1) + (x4)) (fun v25 => nm (((x3) <<< (((8 : Int32)) &&& 31)) ||| ((v25) &&& ((255 : Int32)))) (fun v26 => e_number_71_7 R n x1 v26 (x4 + (-1 : Int32))))
def e_number_71 (R : RfT) (a1 : Int32) (a2 : Int32) : Option (Int32) := e_number_71_7 R fuL a1 ((0 : Int32)) ((a2) - ((1 : Int32)))
set_option maxRecDepth 100000 in
set_option maxHeartbeats 4000000 in
theorem l_X12_number_71_7 (E : gE) (f0 : Nat → va_E) (sz : Nat) (QA : Nat → Prop) (hE : 94 ≤ gN E) (R : RfT) : ∀ (n : Nat), ∀ (x1 : Int32) (x3 : Int32) (x4 : Int32) (r : Int32) (hr : e_number_71_7 R n x1 x3 x4 = some r) (f : Nat → va_E) (w : RW E f R) (hf : Fr RfK f0 f), G E (1, yX12_number, 5, (some .int), sz, QA) cX12_number (gO E (1, yX12_number, 5, (some .int), sz, QA) (fun v g => v = some (.int r) ∧ RW E g R ∧ Fr RfK f0 g, fun _ _ => False)) 7 [(0, .ref (gAd E (71))), (1, .int (x1)), (3, .int (x3)), (4, .int (x4))] [] f := by
  intro n
  induction n with
  | zero =>
    intro x1 x3 x4 r hr f w hf
    cases hr
  | succ n ih =>
    intro x1 x3 x4 r hr f w hf
    obtain ⟨az, sy, r0⟩ := w
    unfold e_number_71_7 at hr
    refine G.go tv_X12_number 1 9 [(0, .ref (gAd E (71))), (1, .int (x1)), (3, .int (x3)), (4, .int (x4))] [.int (x4)] rfl ?_
    refine G.if_lt 34 (tbd tv_X12_number rfl) (by decide) (fun c9 => ?_) (fun c9 => ?_)
    · replace hr := ite_t c9 hr
      refine G.go tv_X12_number 1 35 [(0, .ref (gAd E (71))), (1, .int (x1)), (3, .int (x3)), (4, .int (x4))] [.int (x3)] rfl ?_
      cases hr
      exact G.iret rfl rfl ⟨rfl, ⟨_, _, r0⟩, hf⟩ (tbd tv_X12_number rfl)
    · replace hr := ite_f c9 hr
      refine G.go tv_X12_number 7 21 [(0, .ref (gAd E (71))), (1, .int (x1)), (3, .int (x3)), (4, .int (x4))] [.int ((x1) + (x4)), .ref (gAd E (71)), .int ((x3) <<< (((8 : Int32)) &&& 31))] rfl ?_
      obtain ⟨v25, b25, e25, hr⟩ := ld_s hr
      refine G.baldE (71) (by omega) (r0.a32) b25 e25 (tbd tv_X12_number rfl) ?_
      refine G.go tv_X12_number 4 28 [(0, .ref (gAd E (71))), (1, .int (x1)), (3, .int (((x3) <<< (((8 : Int32)) &&& 31)) ||| ((v25) &&& ((255 : Int32))))), (4, .int (x4))] [] rfl ?_
      obtain ⟨v26, e26, hr⟩ := nm_s hr
      refine G.eql [(0, .ref (gAd E (71))), (1, .int (x1)), (3, .int (v26)), (4, .int (x4))] (by rw [e26]) ?_
      refine G.go tv_X12_number 2 7 [(0, .ref (gAd E (71))), (1, .int (x1)), (3, .int (v26)), (4, .int (x4 + (-1 : Int32)))] [] rfl ?_
      refine G.less [(0, .ref (gAd E (71))), (1, .int (x1)), (3, .int (v26)), (4, .int (x4 + (-1 : Int32)))] [0, 1, 2, 3] rfl ?_
      exact ih _ _ _ _ hr _ ⟨_, _, r0⟩ hf
set_option maxRecDepth 100000 in
set_option maxHeartbeats 4000000 in
theorem k_X12_number_71 (E : gE) (f : Nat → va_E) (hE : 94 ≤ gN E) (R : RfT) (w : RW E f R) (a1 : Int32) (a2 : Int32) (r : Int32) (hr : e_number_71 R a1 a2 = some r) : Ct E 1 yX12_number cX12_number 5 (some .int) [.ref (gAd E (71)), .int (a1), .int (a2)] f (fun v g => v = some (.int r) ∧ RW E g R ∧ Fr RfK f g, fun _ _ => False) := by
  obtain ⟨az, sy, r0⟩ := w
  refine Ct.of (by decide) (Nat.le_of_ble_eq_true rfl) (fun sz => ?_)
  refine G.eql [(0, .ref (gAd E (71))), (1, .int (a1)), (2, .int (a2))] rfl ?_
  unfold e_number_71 at hr
  refine G.go tv_X12_number 6 7 [(0, .ref (gAd E (71))), (1, .int (a1)), (2, .int (a2)), (3, .int ((0 : Int32))), (4, .int ((a2) - ((1 : Int32))))] [] rfl ?_
  refine G.less [(0, .ref (gAd E (71))), (1, .int (a1)), (3, .int ((0 : Int32))), (4, .int ((a2) - ((1 : Int32))))] [0, 1, 3, 4] rfl ?_
  exact l_X12_number_71_7 E f sz _ hE R _ _ _ _ _ hr _ ⟨_, _, r0⟩ Fr.rf
theorem w_2352 : Cond.methodLink "LedgerFilesModel" 232 yX12_number ∈ TB := tp_10 46 (by decide +kernel) rfl
theorem w_2354 : Cond.code yX12_number prog_14_method_20_code 5 (some .int) ∈ TB := tp_10 48 rfl rfl
theorem cw_X12_232 : Cw RX12 232 yX12_number cX12_number 5 (some .int) 3 := ⟨w_2352, w_2354, w_161, by decide +kernel, by decide +kernel, by decide⟩
theorem w_2353 : Cond.static yX12_number ∈ TB := tp_10 47 (by decide +kernel) rfl
def e_number_68_7 (R : RfT) : Nat → Int32 → Int32 → Int32 → Option (Int32)
  | 0, _, _, _ => none
  | n + 1, x1, x3, x4 => if x4 < 0 then some x3 else ld (rA R 28) 131072 ((x1) + (x4)) (fun v28 => nm (((x3) <<< (((8 : Int32)) &&& 31)) ||| ((v28) &&& ((255 : Int32)))) (fun v29 => e_number_68_7 R n x1 v29 (x4 + (-1 : Int32))))
def e_number_68 (R : RfT) (a1 : Int32) (a2 : Int32) : Option (Int32) := e_number_68_7 R fuL a1 ((0 : Int32)) ((a2) - ((1 : Int32)))
set_option maxRecDepth 100000 in
set_option maxHeartbeats 4000000 in
theorem l_X12_number_68_7 (E : gE) (f0 : Nat → va_E) (sz : Nat) (QA : Nat → Prop) (hE : 94 ≤ gN E) (R : RfT) : ∀ (n : Nat), ∀ (x1 : Int32) (x3 : Int32) (x4 : Int32) (r : Int32) (hr : e_number_68_7 R n x1 x3 x4 = some r) (f : Nat → va_E) (w : RW E f R) (hf : Fr RfK f0 f), G E (1, yX12_number, 5, (some .int), sz, QA) cX12_number (gO E (1, yX12_number, 5, (some .int), sz, QA) (fun v g => v = some (.int r) ∧ RW E g R ∧ Fr RfK f0 g, fun _ _ => False)) 7 [(0, .ref (gAd E (68))), (1, .int (x1)), (3, .int (x3)), (4, .int (x4))] [] f := by
  intro n
  induction n with
  | zero =>
    intro x1 x3 x4 r hr f w hf
    cases hr
  | succ n ih =>
    intro x1 x3 x4 r hr f w hf
    obtain ⟨az, sy, r0⟩ := w
    unfold e_number_68_7 at hr
    refine G.go tv_X12_number 1 9 [(0, .ref (gAd E (68))), (1, .int (x1)), (3, .int (x3)), (4, .int (x4))] [.int (x4)] rfl ?_
    refine G.if_lt 34 (tbd tv_X12_number rfl) (by decide) (fun c9 => ?_) (fun c9 => ?_)
    · replace hr := ite_t c9 hr
      refine G.go tv_X12_number 1 35 [(0, .ref (gAd E (68))), (1, .int (x1)), (3, .int (x3)), (4, .int (x4))] [.int (x3)] rfl ?_
      cases hr
      exact G.iret rfl rfl ⟨rfl, ⟨_, _, r0⟩, hf⟩ (tbd tv_X12_number rfl)
    · replace hr := ite_f c9 hr
      refine G.go tv_X12_number 7 21 [(0, .ref (gAd E (68))), (1, .int (x1)), (3, .int (x3)), (4, .int (x4))] [.int ((x1) + (x4)), .ref (gAd E (68)), .int ((x3) <<< (((8 : Int32)) &&& 31))] rfl ?_
      obtain ⟨v28, b28, e28, hr⟩ := ld_s hr
      refine G.baldE (68) (by omega) (r0.a28) b28 e28 (tbd tv_X12_number rfl) ?_
      refine G.go tv_X12_number 4 28 [(0, .ref (gAd E (68))), (1, .int (x1)), (3, .int (((x3) <<< (((8 : Int32)) &&& 31)) ||| ((v28) &&& ((255 : Int32))))), (4, .int (x4))] [] rfl ?_
      obtain ⟨v29, e29, hr⟩ := nm_s hr
      refine G.eql [(0, .ref (gAd E (68))), (1, .int (x1)), (3, .int (v29)), (4, .int (x4))] (by rw [e29]) ?_
      refine G.go tv_X12_number 2 7 [(0, .ref (gAd E (68))), (1, .int (x1)), (3, .int (v29)), (4, .int (x4 + (-1 : Int32)))] [] rfl ?_
      refine G.less [(0, .ref (gAd E (68))), (1, .int (x1)), (3, .int (v29)), (4, .int (x4 + (-1 : Int32)))] [0, 1, 2, 3] rfl ?_
      exact ih _ _ _ _ hr _ ⟨_, _, r0⟩ hf
set_option maxRecDepth 100000 in
set_option maxHeartbeats 4000000 in
theorem k_X12_number_68 (E : gE) (f : Nat → va_E) (hE : 94 ≤ gN E) (R : RfT) (w : RW E f R) (a1 : Int32) (a2 : Int32) (r : Int32) (hr : e_number_68 R a1 a2 = some r) : Ct E 1 yX12_number cX12_number 5 (some .int) [.ref (gAd E (68)), .int (a1), .int (a2)] f (fun v g => v = some (.int r) ∧ RW E g R ∧ Fr RfK f g, fun _ _ => False) := by
  obtain ⟨az, sy, r0⟩ := w
  refine Ct.of (by decide) (Nat.le_of_ble_eq_true rfl) (fun sz => ?_)
  refine G.eql [(0, .ref (gAd E (68))), (1, .int (a1)), (2, .int (a2))] rfl ?_
  unfold e_number_68 at hr
  refine G.go tv_X12_number 6 7 [(0, .ref (gAd E (68))), (1, .int (a1)), (2, .int (a2)), (3, .int ((0 : Int32))), (4, .int ((a2) - ((1 : Int32))))] [] rfl ?_
  refine G.less [(0, .ref (gAd E (68))), (1, .int (a1)), (3, .int ((0 : Int32))), (4, .int ((a2) - ((1 : Int32))))] [0, 1, 3, 4] rfl ?_
  exact l_X12_number_68_7 E f sz _ hE R _ _ _ _ _ hr _ ⟨_, _, r0⟩ Fr.rf
def e_number_65_7 (R : RfT) : Nat → Int32 → Int32 → Int32 → Option (Int32)
  | 0, _, _, _ => none
  | n + 1, x1, x3, x4 => if x4 < 0 then some x3 else ld (rA R 24) 5120 ((x1) + (x4)) (fun v31 => nm (((x3) <<< (((8 : Int32)) &&& 31)) ||| ((v31) &&& ((255 : Int32)))) (fun v32 => e_number_65_7 R n x1 v32 (x4 + (-1 : Int32))))
def e_number_65 (R : RfT) (a1 : Int32) (a2 : Int32) : Option (Int32) := e_number_65_7 R fuL a1 ((0 : Int32)) ((a2) - ((1 : Int32)))
set_option maxRecDepth 100000 in
set_option maxHeartbeats 4000000 in
theorem l_X12_number_65_7 (E : gE) (f0 : Nat → va_E) (sz : Nat) (QA : Nat → Prop) (hE : 94 ≤ gN E) (R : RfT) : ∀ (n : Nat), ∀ (x1 : Int32) (x3 : Int32) (x4 : Int32) (r : Int32) (hr : e_number_65_7 R n x1 x3 x4 = some r) (f : Nat → va_E) (w : RW E f R) (hf : Fr RfK f0 f), G E (1, yX12_number, 5, (some .int), sz, QA) cX12_number (gO E (1, yX12_number, 5, (some .int), sz, QA) (fun v g => v = some (.int r) ∧ RW E g R ∧ Fr RfK f0 g, fun _ _ => False)) 7 [(0, .ref (gAd E (65))), (1, .int (x1)), (3, .int (x3)), (4, .int (x4))] [] f := by
  intro n
  induction n with
  | zero =>
    intro x1 x3 x4 r hr f w hf
    cases hr
  | succ n ih =>
    intro x1 x3 x4 r hr f w hf
    obtain ⟨az, sy, r0⟩ := w
    unfold e_number_65_7 at hr
    refine G.go tv_X12_number 1 9 [(0, .ref (gAd E (65))), (1, .int (x1)), (3, .int (x3)), (4, .int (x4))] [.int (x4)] rfl ?_
    refine G.if_lt 34 (tbd tv_X12_number rfl) (by decide) (fun c9 => ?_) (fun c9 => ?_)
    · replace hr := ite_t c9 hr
      refine G.go tv_X12_number 1 35 [(0, .ref (gAd E (65))), (1, .int (x1)), (3, .int (x3)), (4, .int (x4))] [.int (x3)] rfl ?_
      cases hr
      exact G.iret rfl rfl ⟨rfl, ⟨_, _, r0⟩, hf⟩ (tbd tv_X12_number rfl)
    · replace hr := ite_f c9 hr
      refine G.go tv_X12_number 7 21 [(0, .ref (gAd E (65))), (1, .int (x1)), (3, .int (x3)), (4, .int (x4))] [.int ((x1) + (x4)), .ref (gAd E (65)), .int ((x3) <<< (((8 : Int32)) &&& 31))] rfl ?_
      obtain ⟨v31, b31, e31, hr⟩ := ld_s hr
      refine G.baldE (65) (by omega) (r0.a24) b31 e31 (tbd tv_X12_number rfl) ?_
      refine G.go tv_X12_number 4 28 [(0, .ref (gAd E (65))), (1, .int (x1)), (3, .int (((x3) <<< (((8 : Int32)) &&& 31)) ||| ((v31) &&& ((255 : Int32))))), (4, .int (x4))] [] rfl ?_
      obtain ⟨v32, e32, hr⟩ := nm_s hr
      refine G.eql [(0, .ref (gAd E (65))), (1, .int (x1)), (3, .int (v32)), (4, .int (x4))] (by rw [e32]) ?_
      refine G.go tv_X12_number 2 7 [(0, .ref (gAd E (65))), (1, .int (x1)), (3, .int (v32)), (4, .int (x4 + (-1 : Int32)))] [] rfl ?_
      refine G.less [(0, .ref (gAd E (65))), (1, .int (x1)), (3, .int (v32)), (4, .int (x4 + (-1 : Int32)))] [0, 1, 2, 3] rfl ?_
      exact ih _ _ _ _ hr _ ⟨_, _, r0⟩ hf
set_option maxRecDepth 100000 in
set_option maxHeartbeats 4000000 in
theorem k_X12_number_65 (E : gE) (f : Nat → va_E) (hE : 94 ≤ gN E) (R : RfT) (w : RW E f R) (a1 : Int32) (a2 : Int32) (r : Int32) (hr : e_number_65 R a1 a2 = some r) : Ct E 1 yX12_number cX12_number 5 (some .int) [.ref (gAd E (65)), .int (a1), .int (a2)] f (fun v g => v = some (.int r) ∧ RW E g R ∧ Fr RfK f g, fun _ _ => False) := by
  obtain ⟨az, sy, r0⟩ := w
  refine Ct.of (by decide) (Nat.le_of_ble_eq_true rfl) (fun sz => ?_)
  refine G.eql [(0, .ref (gAd E (65))), (1, .int (a1)), (2, .int (a2))] rfl ?_
  unfold e_number_65 at hr
  refine G.go tv_X12_number 6 7 [(0, .ref (gAd E (65))), (1, .int (a1)), (2, .int (a2)), (3, .int ((0 : Int32))), (4, .int ((a2) - ((1 : Int32))))] [] rfl ?_
  refine G.less [(0, .ref (gAd E (65))), (1, .int (a1)), (3, .int ((0 : Int32))), (4, .int ((a2) - ((1 : Int32))))] [0, 1, 3, 4] rfl ?_
  exact l_X12_number_65_7 E f sz _ hE R _ _ _ _ _ hr _ ⟨_, _, r0⟩ Fr.rf
def e_number_63_7 (R : RfT) : Nat → Int32 → Int32 → Int32 → Option (Int32)
  | 0, _, _, _ => none
  | n + 1, x1, x3, x4 => if x4 < 0 then some x3 else ld (rA R 17) 8192 ((x1) + (x4)) (fun v34 => nm (((x3) <<< (((8 : Int32)) &&& 31)) ||| ((v34) &&& ((255 : Int32)))) (fun v35 => e_number_63_7 R n x1 v35 (x4 + (-1 : Int32))))
def e_number_63 (R : RfT) (a1 : Int32) (a2 : Int32) : Option (Int32) := e_number_63_7 R fuL a1 ((0 : Int32)) ((a2) - ((1 : Int32)))
set_option maxRecDepth 100000 in
set_option maxHeartbeats 4000000 in
theorem l_X12_number_63_7 (E : gE) (f0 : Nat → va_E) (sz : Nat) (QA : Nat → Prop) (hE : 94 ≤ gN E) (R : RfT) : ∀ (n : Nat), ∀ (x1 : Int32) (x3 : Int32) (x4 : Int32) (r : Int32) (hr : e_number_63_7 R n x1 x3 x4 = some r) (f : Nat → va_E) (w : RW E f R) (hf : Fr RfK f0 f), G E (1, yX12_number, 5, (some .int), sz, QA) cX12_number (gO E (1, yX12_number, 5, (some .int), sz, QA) (fun v g => v = some (.int r) ∧ RW E g R ∧ Fr RfK f0 g, fun _ _ => False)) 7 [(0, .ref (gAd E (63))), (1, .int (x1)), (3, .int (x3)), (4, .int (x4))] [] f := by
  intro n
  induction n with
  | zero =>
    intro x1 x3 x4 r hr f w hf
    cases hr
  | succ n ih =>
    intro x1 x3 x4 r hr f w hf
    obtain ⟨az, sy, r0⟩ := w
    unfold e_number_63_7 at hr
    refine G.go tv_X12_number 1 9 [(0, .ref (gAd E (63))), (1, .int (x1)), (3, .int (x3)), (4, .int (x4))] [.int (x4)] rfl ?_
    refine G.if_lt 34 (tbd tv_X12_number rfl) (by decide) (fun c9 => ?_) (fun c9 => ?_)
    · replace hr := ite_t c9 hr
      refine G.go tv_X12_number 1 35 [(0, .ref (gAd E (63))), (1, .int (x1)), (3, .int (x3)), (4, .int (x4))] [.int (x3)] rfl ?_
      cases hr
      exact G.iret rfl rfl ⟨rfl, ⟨_, _, r0⟩, hf⟩ (tbd tv_X12_number rfl)
    · replace hr := ite_f c9 hr
      refine G.go tv_X12_number 7 21 [(0, .ref (gAd E (63))), (1, .int (x1)), (3, .int (x3)), (4, .int (x4))] [.int ((x1) + (x4)), .ref (gAd E (63)), .int ((x3) <<< (((8 : Int32)) &&& 31))] rfl ?_
      obtain ⟨v34, b34, e34, hr⟩ := ld_s hr
      refine G.baldE (63) (by omega) (r0.a17) b34 e34 (tbd tv_X12_number rfl) ?_
      refine G.go tv_X12_number 4 28 [(0, .ref (gAd E (63))), (1, .int (x1)), (3, .int (((x3) <<< (((8 : Int32)) &&& 31)) ||| ((v34) &&& ((255 : Int32))))), (4, .int (x4))] [] rfl ?_
      obtain ⟨v35, e35, hr⟩ := nm_s hr
      refine G.eql [(0, .ref (gAd E (63))), (1, .int (x1)), (3, .int (v35)), (4, .int (x4))] (by rw [e35]) ?_
      refine G.go tv_X12_number 2 7 [(0, .ref (gAd E (63))), (1, .int (x1)), (3, .int (v35)), (4, .int (x4 + (-1 : Int32)))] [] rfl ?_
      refine G.less [(0, .ref (gAd E (63))), (1, .int (x1)), (3, .int (v35)), (4, .int (x4 + (-1 : Int32)))] [0, 1, 2, 3] rfl ?_
      exact ih _ _ _ _ hr _ ⟨_, _, r0⟩ hf
set_option maxRecDepth 100000 in
set_option maxHeartbeats 4000000 in
theorem k_X12_number_63 (E : gE) (f : Nat → va_E) (hE : 94 ≤ gN E) (R : RfT) (w : RW E f R) (a1 : Int32) (a2 : Int32) (r : Int32) (hr : e_number_63 R a1 a2 = some r) : Ct E 1 yX12_number cX12_number 5 (some .int) [.ref (gAd E (63)), .int (a1), .int (a2)] f (fun v g => v = some (.int r) ∧ RW E g R ∧ Fr RfK f g, fun _ _ => False) := by
  obtain ⟨az, sy, r0⟩ := w
  refine Ct.of (by decide) (Nat.le_of_ble_eq_true rfl) (fun sz => ?_)
  refine G.eql [(0, .ref (gAd E (63))), (1, .int (a1)), (2, .int (a2))] rfl ?_
  unfold e_number_63 at hr
  refine G.go tv_X12_number 6 7 [(0, .ref (gAd E (63))), (1, .int (a1)), (2, .int (a2)), (3, .int ((0 : Int32))), (4, .int ((a2) - ((1 : Int32))))] [] rfl ?_
  refine G.less [(0, .ref (gAd E (63))), (1, .int (a1)), (3, .int ((0 : Int32))), (4, .int ((a2) - ((1 : Int32))))] [0, 1, 3, 4] rfl ?_
  exact l_X12_number_63_7 E f sz _ hE R _ _ _ _ _ hr _ ⟨_, _, r0⟩ Fr.rf
def e_number_60_7 (R : RfT) : Nat → Int32 → Int32 → Int32 → Option (Int32)
  | 0, _, _, _ => none
  | n + 1, x1, x3, x4 => if x4 < 0 then some x3 else ld (rA R 8) 32768 ((x1) + (x4)) (fun v37 => nm (((x3) <<< (((8 : Int32)) &&& 31)) ||| ((v37) &&& ((255 : Int32)))) (fun v38 => e_number_60_7 R n x1 v38 (x4 + (-1 : Int32))))
def e_number_60 (R : RfT) (a1 : Int32) (a2 : Int32) : Option (Int32) := e_number_60_7 R fuL a1 ((0 : Int32)) ((a2) - ((1 : Int32)))
set_option maxRecDepth 100000 in
set_option maxHeartbeats 4000000 in
theorem l_X12_number_60_7 (E : gE) (f0 : Nat → va_E) (sz : Nat) (QA : Nat → Prop) (hE : 94 ≤ gN E) (R : RfT) : ∀ (n : Nat), ∀ (x1 : Int32) (x3 : Int32) (x4 : Int32) (r : Int32) (hr : e_number_60_7 R n x1 x3 x4 = some r) (f : Nat → va_E) (w : RW E f R) (hf : Fr RfK f0 f), G E (1, yX12_number, 5, (some .int), sz, QA) cX12_number (gO E (1, yX12_number, 5, (some .int), sz, QA) (fun v g => v = some (.int r) ∧ RW E g R ∧ Fr RfK f0 g, fun _ _ => False)) 7 [(0, .ref (gAd E (60))), (1, .int (x1)), (3, .int (x3)), (4, .int (x4))] [] f := by
  intro n
  induction n with
  | zero =>
    intro x1 x3 x4 r hr f w hf
    cases hr
  | succ n ih =>
    intro x1 x3 x4 r hr f w hf
    obtain ⟨az, sy, r0⟩ := w
    unfold e_number_60_7 at hr
    refine G.go tv_X12_number 1 9 [(0, .ref (gAd E (60))), (1, .int (x1)), (3, .int (x3)), (4, .int (x4))] [.int (x4)] rfl ?_
    refine G.if_lt 34 (tbd tv_X12_number rfl) (by decide) (fun c9 => ?_) (fun c9 => ?_)
    · replace hr := ite_t c9 hr
      refine G.go tv_X12_number 1 35 [(0, .ref (gAd E (60))), (1, .int (x1)), (3, .int (x3)), (4, .int (x4))] [.int (x3)] rfl ?_
      cases hr
      exact G.iret rfl rfl ⟨rfl, ⟨_, _, r0⟩, hf⟩ (tbd tv_X12_number rfl)
    · replace hr := ite_f c9 hr
      refine G.go tv_X12_number 7 21 [(0, .ref (gAd E (60))), (1, .int (x1)), (3, .int (x3)), (4, .int (x4))] [.int ((x1) + (x4)), .ref (gAd E (60)), .int ((x3) <<< (((8 : Int32)) &&& 31))] rfl ?_
      obtain ⟨v37, b37, e37, hr⟩ := ld_s hr
      refine G.baldE (60) (by omega) (r0.a8) b37 e37 (tbd tv_X12_number rfl) ?_
      refine G.go tv_X12_number 4 28 [(0, .ref (gAd E (60))), (1, .int (x1)), (3, .int (((x3) <<< (((8 : Int32)) &&& 31)) ||| ((v37) &&& ((255 : Int32))))), (4, .int (x4))] [] rfl ?_
      obtain ⟨v38, e38, hr⟩ := nm_s hr
      refine G.eql [(0, .ref (gAd E (60))), (1, .int (x1)), (3, .int (v38)), (4, .int (x4))] (by rw [e38]) ?_
      refine G.go tv_X12_number 2 7 [(0, .ref (gAd E (60))), (1, .int (x1)), (3, .int (v38)), (4, .int (x4 + (-1 : Int32)))] [] rfl ?_
      refine G.less [(0, .ref (gAd E (60))), (1, .int (x1)), (3, .int (v38)), (4, .int (x4 + (-1 : Int32)))] [0, 1, 2, 3] rfl ?_
      exact ih _ _ _ _ hr _ ⟨_, _, r0⟩ hf
set_option maxRecDepth 100000 in
set_option maxHeartbeats 4000000 in
theorem k_X12_number_60 (E : gE) (f : Nat → va_E) (hE : 94 ≤ gN E) (R : RfT) (w : RW E f R) (a1 : Int32) (a2 : Int32) (r : Int32) (hr : e_number_60 R a1 a2 = some r) : Ct E 1 yX12_number cX12_number 5 (some .int) [.ref (gAd E (60)), .int (a1), .int (a2)] f (fun v g => v = some (.int r) ∧ RW E g R ∧ Fr RfK f g, fun _ _ => False) := by
  obtain ⟨az, sy, r0⟩ := w
  refine Ct.of (by decide) (Nat.le_of_ble_eq_true rfl) (fun sz => ?_)
  refine G.eql [(0, .ref (gAd E (60))), (1, .int (a1)), (2, .int (a2))] rfl ?_
  unfold e_number_60 at hr
  refine G.go tv_X12_number 6 7 [(0, .ref (gAd E (60))), (1, .int (a1)), (2, .int (a2)), (3, .int ((0 : Int32))), (4, .int ((a2) - ((1 : Int32))))] [] rfl ?_
  refine G.less [(0, .ref (gAd E (60))), (1, .int (a1)), (3, .int ((0 : Int32))), (4, .int ((a2) - ((1 : Int32))))] [0, 1, 3, 4] rfl ?_
  exact l_X12_number_60_7 E f sz _ hE R _ _ _ _ _ hr _ ⟨_, _, r0⟩ Fr.rf
def e_number_58_7 (R : RfT) : Nat → Int32 → Int32 → Int32 → Option (Int32)
  | 0, _, _, _ => none
  | n + 1, x1, x3, x4 => if x4 < 0 then some x3 else ld (rA R 6) 131072 ((x1) + (x4)) (fun v40 => nm (((x3) <<< (((8 : Int32)) &&& 31)) ||| ((v40) &&& ((255 : Int32)))) (fun v41 => e_number_58_7 R n x1 v41 (x4 + (-1 : Int32))))
def e_number_58 (R : RfT) (a1 : Int32) (a2 : Int32) : Option (Int32) := e_number_58_7 R fuL a1 ((0 : Int32)) ((a2) - ((1 : Int32)))
set_option maxRecDepth 100000 in
set_option maxHeartbeats 4000000 in
theorem l_X12_number_58_7 (E : gE) (f0 : Nat → va_E) (sz : Nat) (QA : Nat → Prop) (hE : 94 ≤ gN E) (R : RfT) : ∀ (n : Nat), ∀ (x1 : Int32) (x3 : Int32) (x4 : Int32) (r : Int32) (hr : e_number_58_7 R n x1 x3 x4 = some r) (f : Nat → va_E) (w : RW E f R) (hf : Fr RfK f0 f), G E (1, yX12_number, 5, (some .int), sz, QA) cX12_number (gO E (1, yX12_number, 5, (some .int), sz, QA) (fun v g => v = some (.int r) ∧ RW E g R ∧ Fr RfK f0 g, fun _ _ => False)) 7 [(0, .ref (gAd E (58))), (1, .int (x1)), (3, .int (x3)), (4, .int (x4))] [] f := by
  intro n
  induction n with
  | zero =>
    intro x1 x3 x4 r hr f w hf
    cases hr
  | succ n ih =>
    intro x1 x3 x4 r hr f w hf
    obtain ⟨az, sy, r0⟩ := w
    unfold e_number_58_7 at hr
    refine G.go tv_X12_number 1 9 [(0, .ref (gAd E (58))), (1, .int (x1)), (3, .int (x3)), (4, .int (x4))] [.int (x4)] rfl ?_
    refine G.if_lt 34 (tbd tv_X12_number rfl) (by decide) (fun c9 => ?_) (fun c9 => ?_)
    · replace hr := ite_t c9 hr
      refine G.go tv_X12_number 1 35 [(0, .ref (gAd E (58))), (1, .int (x1)), (3, .int (x3)), (4, .int (x4))] [.int (x3)] rfl ?_
      cases hr
      exact G.iret rfl rfl ⟨rfl, ⟨_, _, r0⟩, hf⟩ (tbd tv_X12_number rfl)
    · replace hr := ite_f c9 hr
      refine G.go tv_X12_number 7 21 [(0, .ref (gAd E (58))), (1, .int (x1)), (3, .int (x3)), (4, .int (x4))] [.int ((x1) + (x4)), .ref (gAd E (58)), .int ((x3) <<< (((8 : Int32)) &&& 31))] rfl ?_
      obtain ⟨v40, b40, e40, hr⟩ := ld_s hr
      refine G.baldE (58) (by omega) (r0.a6) b40 e40 (tbd tv_X12_number rfl) ?_
      refine G.go tv_X12_number 4 28 [(0, .ref (gAd E (58))), (1, .int (x1)), (3, .int (((x3) <<< (((8 : Int32)) &&& 31)) ||| ((v40) &&& ((255 : Int32))))), (4, .int (x4))] [] rfl ?_
      obtain ⟨v41, e41, hr⟩ := nm_s hr
      refine G.eql [(0, .ref (gAd E (58))), (1, .int (x1)), (3, .int (v41)), (4, .int (x4))] (by rw [e41]) ?_
      refine G.go tv_X12_number 2 7 [(0, .ref (gAd E (58))), (1, .int (x1)), (3, .int (v41)), (4, .int (x4 + (-1 : Int32)))] [] rfl ?_
      refine G.less [(0, .ref (gAd E (58))), (1, .int (x1)), (3, .int (v41)), (4, .int (x4 + (-1 : Int32)))] [0, 1, 2, 3] rfl ?_
      exact ih _ _ _ _ hr _ ⟨_, _, r0⟩ hf
set_option maxRecDepth 100000 in
set_option maxHeartbeats 4000000 in
theorem k_X12_number_58 (E : gE) (f : Nat → va_E) (hE : 94 ≤ gN E) (R : RfT) (w : RW E f R) (a1 : Int32) (a2 : Int32) (r : Int32) (hr : e_number_58 R a1 a2 = some r) : Ct E 1 yX12_number cX12_number 5 (some .int) [.ref (gAd E (58)), .int (a1), .int (a2)] f (fun v g => v = some (.int r) ∧ RW E g R ∧ Fr RfK f g, fun _ _ => False) := by
  obtain ⟨az, sy, r0⟩ := w
  refine Ct.of (by decide) (Nat.le_of_ble_eq_true rfl) (fun sz => ?_)
  refine G.eql [(0, .ref (gAd E (58))), (1, .int (a1)), (2, .int (a2))] rfl ?_
  unfold e_number_58 at hr
  refine G.go tv_X12_number 6 7 [(0, .ref (gAd E (58))), (1, .int (a1)), (2, .int (a2)), (3, .int ((0 : Int32))), (4, .int ((a2) - ((1 : Int32))))] [] rfl ?_
  refine G.less [(0, .ref (gAd E (58))), (1, .int (a1)), (3, .int ((0 : Int32))), (4, .int ((a2) - ((1 : Int32))))] [0, 1, 3, 4] rfl ?_
  exact l_X12_number_58_7 E f sz _ hE R _ _ _ _ _ hr _ ⟨_, _, r0⟩ Fr.rf
def e_seenNumber (R : RfT) (a0 : Int32) (a1 : Int32) (a2 : Int32) : Option (Int32) := bnd2 (e_lookUp R a0 ((1 : Int32))) (fun k23 v23 => if k23 = 71 then bnd (e_number_71 R ((v23) + (a1)) a2) (fun v24 => some v24) else if k23 = 68 then bnd (e_number_68 R ((v23) + (a1)) a2) (fun v27 => some v27) else if k23 = 65 then bnd (e_number_65 R ((v23) + (a1)) a2) (fun v30 => some v30) else if k23 = 63 then bnd (e_number_63 R ((v23) + (a1)) a2) (fun v33 => some v33) else if k23 = 60 then bnd (e_number_60 R ((v23) + (a1)) a2) (fun v36 => some v36) else if k23 = 58 then bnd (e_number_58 R ((v23) + (a1)) a2) (fun v39 => some v39) else none)
set_option maxRecDepth 100000 in
set_option maxHeartbeats 4000000 in
theorem k_X12_seenNumber (E : gE) (f : Nat → va_E) (hE : 94 ≤ gN E) (R : RfT) (w : RW E f R) (a0 : Int32) (a1 : Int32) (a2 : Int32) (r : Int32) (hr : e_seenNumber R a0 a1 a2 = some r) : Ct E 2 yX12_seenNumber cX12_seenNumber 4 (some .int) [.ref (gAd E (56)), .int (a0), .int (a1), .int (a2)] f (fun v g => v = some (.int r) ∧ RW E g R ∧ Fr RfK f g, fun _ _ => False) := by
  obtain ⟨az, sy, r0⟩ := w
  refine Ct.of (by decide) (Nat.le_of_ble_eq_true rfl) (fun sz => ?_)
  refine G.eql [(0, .ref (gAd E (56))), (1, .int (a0)), (2, .int (a1)), (3, .int (a2))] rfl ?_
  unfold e_seenNumber at hr
  refine G.go tv_X12_seenNumber 3 3 [(0, .ref (gAd E (56))), (1, .int (a0)), (2, .int (a1)), (3, .int (a2))] [.int ((1 : Int32)), .int (a0), .ref (gAd E (56))] rfl ?_
  obtain ⟨k23, v23, hv23, hr⟩ := bnd2_s hr
  refine G.callV (56) [.int (a0), .int ((1 : Int32))] [] (k_X12_lookUp E _ hE R ⟨_, _, r0⟩ a0 ((1 : Int32)) k23 v23 hv23) cls_X12 (by omega) (r0.o) cw_X12_222 w_2384 w_77 (Nat.le_of_ble_eq_true rfl) rfl (Nat.le_of_ble_eq_true rfl) (tbd tv_X12_seenNumber rfl) (fun v23w f23 q23 => ?_) (fun _ _ h => h.elim)
  obtain ⟨rfl, r23, fa23⟩ := q23
  refine G.eqs [] rfl ?_
  by_cases ck23_71 : k23 = 71
  · replace hr := ite_t ck23_71 hr
    subst ck23_71
    refine G.go tv_X12_seenNumber 1 7 [(0, .ref (gAd E (56))), (1, .int (a0)), (2, .int (a1)), (3, .int (a2))] [.ref (gAd E (56))] rfl ?_
    refine G.rg r23 hE 41 (.ref (gAd E (71))) (by decide) rfl (tbd tv_X12_seenNumber rfl) w_2106 ?_
    refine G.go tv_X12_seenNumber 1 11 [(0, .ref (gAd E (56))), (1, .int (a0)), (2, .int (a1)), (3, .int (a2))] [.ref (gAd E (56)), .ref (gAd E (71))] rfl ?_
    refine G.rg r23 hE 42 (.int (v23)) (by decide) rfl (tbd tv_X12_seenNumber rfl) w_2107 ?_
    refine G.go tv_X12_seenNumber 3 17 [(0, .ref (gAd E (56))), (1, .int (a0)), (2, .int (a1)), (3, .int (a2))] [.int (a2), .int ((v23) + (a1)), .ref (gAd E (71))] rfl ?_
    obtain ⟨v24, hv24, hr⟩ := bnd_s hr
    refine G.callS [.ref (gAd E (71)), .int ((v23) + (a1)), .int (a2)] [] (k_X12_number_71 E _ hE R ⟨_, _, r23⟩ ((v23) + (a1)) a2 v24 hv24) cw_X12_232 w_2353 (Nat.le_of_ble_eq_true rfl) rfl (Nat.le_of_ble_eq_true rfl) (tbd tv_X12_seenNumber rfl) (fun v24w f24 q24 => ?_) (fun _ _ h => h.elim)
    obtain ⟨rfl, ⟨az24, sy24, r24⟩, fa24⟩ := q24
    refine G.eqs [.int (v24)] rfl ?_
    cases hr
    exact G.iret rfl rfl ⟨rfl, ⟨_, _, r24⟩, ((Fr.rf.tr fa23 (fun _ h => h)).tr fa24 (fun _ h => h))⟩ (tbd tv_X12_seenNumber rfl)
  replace hr := ite_f ck23_71 hr
  by_cases ck23_68 : k23 = 68
  · replace hr := ite_t ck23_68 hr
    subst ck23_68
    refine G.go tv_X12_seenNumber 1 7 [(0, .ref (gAd E (56))), (1, .int (a0)), (2, .int (a1)), (3, .int (a2))] [.ref (gAd E (56))] rfl ?_
    refine G.rg r23 hE 41 (.ref (gAd E (68))) (by decide) rfl (tbd tv_X12_seenNumber rfl) w_2106 ?_
    refine G.go tv_X12_seenNumber 1 11 [(0, .ref (gAd E (56))), (1, .int (a0)), (2, .int (a1)), (3, .int (a2))] [.ref (gAd E (56)), .ref (gAd E (68))] rfl ?_
    refine G.rg r23 hE 42 (.int (v23)) (by decide) rfl (tbd tv_X12_seenNumber rfl) w_2107 ?_
    refine G.go tv_X12_seenNumber 3 17 [(0, .ref (gAd E (56))), (1, .int (a0)), (2, .int (a1)), (3, .int (a2))] [.int (a2), .int ((v23) + (a1)), .ref (gAd E (68))] rfl ?_
    obtain ⟨v27, hv27, hr⟩ := bnd_s hr
    refine G.callS [.ref (gAd E (68)), .int ((v23) + (a1)), .int (a2)] [] (k_X12_number_68 E _ hE R ⟨_, _, r23⟩ ((v23) + (a1)) a2 v27 hv27) cw_X12_232 w_2353 (Nat.le_of_ble_eq_true rfl) rfl (Nat.le_of_ble_eq_true rfl) (tbd tv_X12_seenNumber rfl) (fun v27w f27 q27 => ?_) (fun _ _ h => h.elim)
    obtain ⟨rfl, ⟨az27, sy27, r27⟩, fa27⟩ := q27
    refine G.eqs [.int (v27)] rfl ?_
    cases hr
    exact G.iret rfl rfl ⟨rfl, ⟨_, _, r27⟩, ((Fr.rf.tr fa23 (fun _ h => h)).tr fa27 (fun _ h => h))⟩ (tbd tv_X12_seenNumber rfl)
  replace hr := ite_f ck23_68 hr
  by_cases ck23_65 : k23 = 65
  · replace hr := ite_t ck23_65 hr
    subst ck23_65
    refine G.go tv_X12_seenNumber 1 7 [(0, .ref (gAd E (56))), (1, .int (a0)), (2, .int (a1)), (3, .int (a2))] [.ref (gAd E (56))] rfl ?_
    refine G.rg r23 hE 41 (.ref (gAd E (65))) (by decide) rfl (tbd tv_X12_seenNumber rfl) w_2106 ?_
    refine G.go tv_X12_seenNumber 1 11 [(0, .ref (gAd E (56))), (1, .int (a0)), (2, .int (a1)), (3, .int (a2))] [.ref (gAd E (56)), .ref (gAd E (65))] rfl ?_
    refine G.rg r23 hE 42 (.int (v23)) (by decide) rfl (tbd tv_X12_seenNumber rfl) w_2107 ?_
    refine G.go tv_X12_seenNumber 3 17 [(0, .ref (gAd E (56))), (1, .int (a0)), (2, .int (a1)), (3, .int (a2))] [.int (a2), .int ((v23) + (a1)), .ref (gAd E (65))] rfl ?_
    obtain ⟨v30, hv30, hr⟩ := bnd_s hr
    refine G.callS [.ref (gAd E (65)), .int ((v23) + (a1)), .int (a2)] [] (k_X12_number_65 E _ hE R ⟨_, _, r23⟩ ((v23) + (a1)) a2 v30 hv30) cw_X12_232 w_2353 (Nat.le_of_ble_eq_true rfl) rfl (Nat.le_of_ble_eq_true rfl) (tbd tv_X12_seenNumber rfl) (fun v30w f30 q30 => ?_) (fun _ _ h => h.elim)
    obtain ⟨rfl, ⟨az30, sy30, r30⟩, fa30⟩ := q30
    refine G.eqs [.int (v30)] rfl ?_
    cases hr
    exact G.iret rfl rfl ⟨rfl, ⟨_, _, r30⟩, ((Fr.rf.tr fa23 (fun _ h => h)).tr fa30 (fun _ h => h))⟩ (tbd tv_X12_seenNumber rfl)
  replace hr := ite_f ck23_65 hr
  by_cases ck23_63 : k23 = 63
  · replace hr := ite_t ck23_63 hr
    subst ck23_63
    refine G.go tv_X12_seenNumber 1 7 [(0, .ref (gAd E (56))), (1, .int (a0)), (2, .int (a1)), (3, .int (a2))] [.ref (gAd E (56))] rfl ?_
    refine G.rg r23 hE 41 (.ref (gAd E (63))) (by decide) rfl (tbd tv_X12_seenNumber rfl) w_2106 ?_
    refine G.go tv_X12_seenNumber 1 11 [(0, .ref (gAd E (56))), (1, .int (a0)), (2, .int (a1)), (3, .int (a2))] [.ref (gAd E (56)), .ref (gAd E (63))] rfl ?_
    refine G.rg r23 hE 42 (.int (v23)) (by decide) rfl (tbd tv_X12_seenNumber rfl) w_2107 ?_
    refine G.go tv_X12_seenNumber 3 17 [(0, .ref (gAd E (56))), (1, .int (a0)), (2, .int (a1)), (3, .int (a2))] [.int (a2), .int ((v23) + (a1)), .ref (gAd E (63))] rfl ?_
    obtain ⟨v33, hv33, hr⟩ := bnd_s hr
    refine G.callS [.ref (gAd E (63)), .int ((v23) + (a1)), .int (a2)] [] (k_X12_number_63 E _ hE R ⟨_, _, r23⟩ ((v23) + (a1)) a2 v33 hv33) cw_X12_232 w_2353 (Nat.le_of_ble_eq_true rfl) rfl (Nat.le_of_ble_eq_true rfl) (tbd tv_X12_seenNumber rfl) (fun v33w f33 q33 => ?_) (fun _ _ h => h.elim)
    obtain ⟨rfl, ⟨az33, sy33, r33⟩, fa33⟩ := q33
    refine G.eqs [.int (v33)] rfl ?_
    cases hr
    exact G.iret rfl rfl ⟨rfl, ⟨_, _, r33⟩, ((Fr.rf.tr fa23 (fun _ h => h)).tr fa33 (fun _ h => h))⟩ (tbd tv_X12_seenNumber rfl)
  replace hr := ite_f ck23_63 hr
  by_cases ck23_60 : k23 = 60
  · replace hr := ite_t ck23_60 hr
    subst ck23_60
    refine G.go tv_X12_seenNumber 1 7 [(0, .ref (gAd E (56))), (1, .int (a0)), (2, .int (a1)), (3, .int (a2))] [.ref (gAd E (56))] rfl ?_
    refine G.rg r23 hE 41 (.ref (gAd E (60))) (by decide) rfl (tbd tv_X12_seenNumber rfl) w_2106 ?_
    refine G.go tv_X12_seenNumber 1 11 [(0, .ref (gAd E (56))), (1, .int (a0)), (2, .int (a1)), (3, .int (a2))] [.ref (gAd E (56)), .ref (gAd E (60))] rfl ?_
    refine G.rg r23 hE 42 (.int (v23)) (by decide) rfl (tbd tv_X12_seenNumber rfl) w_2107 ?_
    refine G.go tv_X12_seenNumber 3 17 [(0, .ref (gAd E (56))), (1, .int (a0)), (2, .int (a1)), (3, .int (a2))] [.int (a2), .int ((v23) + (a1)), .ref (gAd E (60))] rfl ?_
    obtain ⟨v36, hv36, hr⟩ := bnd_s hr
    refine G.callS [.ref (gAd E (60)), .int ((v23) + (a1)), .int (a2)] [] (k_X12_number_60 E _ hE R ⟨_, _, r23⟩ ((v23) + (a1)) a2 v36 hv36) cw_X12_232 w_2353 (Nat.le_of_ble_eq_true rfl) rfl (Nat.le_of_ble_eq_true rfl) (tbd tv_X12_seenNumber rfl) (fun v36w f36 q36 => ?_) (fun _ _ h => h.elim)
    obtain ⟨rfl, ⟨az36, sy36, r36⟩, fa36⟩ := q36
    refine G.eqs [.int (v36)] rfl ?_
    cases hr
    exact G.iret rfl rfl ⟨rfl, ⟨_, _, r36⟩, ((Fr.rf.tr fa23 (fun _ h => h)).tr fa36 (fun _ h => h))⟩ (tbd tv_X12_seenNumber rfl)
  replace hr := ite_f ck23_60 hr
  by_cases ck23_58 : k23 = 58
  · replace hr := ite_t ck23_58 hr
    subst ck23_58
    refine G.go tv_X12_seenNumber 1 7 [(0, .ref (gAd E (56))), (1, .int (a0)), (2, .int (a1)), (3, .int (a2))] [.ref (gAd E (56))] rfl ?_
    refine G.rg r23 hE 41 (.ref (gAd E (58))) (by decide) rfl (tbd tv_X12_seenNumber rfl) w_2106 ?_
    refine G.go tv_X12_seenNumber 1 11 [(0, .ref (gAd E (56))), (1, .int (a0)), (2, .int (a1)), (3, .int (a2))] [.ref (gAd E (56)), .ref (gAd E (58))] rfl ?_
    refine G.rg r23 hE 42 (.int (v23)) (by decide) rfl (tbd tv_X12_seenNumber rfl) w_2107 ?_
    refine G.go tv_X12_seenNumber 3 17 [(0, .ref (gAd E (56))), (1, .int (a0)), (2, .int (a1)), (3, .int (a2))] [.int (a2), .int ((v23) + (a1)), .ref (gAd E (58))] rfl ?_
    obtain ⟨v39, hv39, hr⟩ := bnd_s hr
    refine G.callS [.ref (gAd E (58)), .int ((v23) + (a1)), .int (a2)] [] (k_X12_number_58 E _ hE R ⟨_, _, r23⟩ ((v23) + (a1)) a2 v39 hv39) cw_X12_232 w_2353 (Nat.le_of_ble_eq_true rfl) rfl (Nat.le_of_ble_eq_true rfl) (tbd tv_X12_seenNumber rfl) (fun v39w f39 q39 => ?_) (fun _ _ h => h.elim)
    obtain ⟨rfl, ⟨az39, sy39, r39⟩, fa39⟩ := q39
    refine G.eqs [.int (v39)] rfl ?_
    cases hr
    exact G.iret rfl rfl ⟨rfl, ⟨_, _, r39⟩, ((Fr.rf.tr fa23 (fun _ h => h)).tr fa39 (fun _ h => h))⟩ (tbd tv_X12_seenNumber rfl)
  replace hr := ite_f ck23_58 hr
  cases hr
def tb_X12_see : List (Nat × Instr × Nat) := [(0, .aload_n 0, 1), (1, .iload_n 1, 1), (2, .iload_n 2, 1), (3, .invokevirtual 222, 3), (6, .aload_n 0, 1), (7, .getfield 226, 3), (10, .aload_n 0, 1), (11, .getfield 229, 3), (14, .aload_n 0, 1), (15, .getfield 86, 3), (18, .iconst 0, 1), (19, .invokestatic 190, 3), (22, .return_, 1)]
theorem tv_X12_see : Tv cX12_see tb_X12_see := by
  unfold Tv
  decide +kernel
def e_move_71_78_3  : Nat → RfT → Int32 → Int32 → Int32 → Option (RfT)
  | 0, _, _, _, _ => none
  | n + 1, R, x1, x3, x4 => if ((128 : Int32)) ≤ x4 then some R else ld (rA R 32) 131072 ((x1) + (x4)) (fun v44 => stR R 43 128 ((x3) + (x4)) (vp_nar .byte v44) (fun R45 => e_move_71_78_3  n R45 x1 x3 (x4 + (1 : Int32))))
def e_move_71_78  (R : RfT) (a1 : Int32) (a3 : Int32) : Option (RfT) := e_move_71_78_3  fuL R a1 a3 ((0 : Int32))
set_option maxRecDepth 100000 in
set_option maxHeartbeats 4000000 in
theorem l_X12_move_71_78_3 (E : gE) (f0 : Nat → va_E) (sz : Nat) (QA : Nat → Prop) (hE : 94 ≤ gN E) : ∀ (n : Nat), ∀ (R : RfT) (x1 : Int32) (x3 : Int32) (x4 : Int32) (R9 : RfT) (hr : e_move_71_78_3  n R x1 x3 x4 = some R9) (f : Nat → va_E) (w : RW E f R) (hf : Fr RfK f0 f), G E (1, yX12_move, 5, none, sz, QA) cX12_move (gO E (1, yX12_move, 5, none, sz, QA) (fun v g => v = none ∧ RW E g R9 ∧ Fr RfK f0 g, fun _ _ => False)) 3 [(0, .ref (gAd E (71))), (1, .int (x1)), (2, .ref (gAd E (78))), (3, .int (x3)), (4, .int (x4))] [] f := by
  intro n
  induction n with
  | zero =>
    intro R x1 x3 x4 R9 hr f w hf
    cases hr
  | succ n ih =>
    intro R x1 x3 x4 R9 hr f w hf
    obtain ⟨az, sy, r0⟩ := w
    unfold e_move_71_78_3 at hr
    refine G.go tv_X12_move 2 8 [(0, .ref (gAd E (71))), (1, .int (x1)), (2, .ref (gAd E (78))), (3, .int (x3)), (4, .int (x4))] [.int ((128 : Int32)), .int (x4)] rfl ?_
    refine G.cmp_ge 29 (tbd tv_X12_move rfl) (by decide) (fun c8 => ?_) (fun c8 => ?_)
    · replace hr := ite_t c8 hr
      cases hr
      exact G.vret rfl ⟨rfl, ⟨_, _, r0⟩, hf⟩ (tbd tv_X12_move rfl)
    · replace hr := ite_f c8 hr
      refine G.go tv_X12_move 8 21 [(0, .ref (gAd E (71))), (1, .int (x1)), (2, .ref (gAd E (78))), (3, .int (x3)), (4, .int (x4))] [.int ((x1) + (x4)), .ref (gAd E (71)), .int ((x3) + (x4)), .ref (gAd E (78))] rfl ?_
      obtain ⟨v44, b44, e44, hr⟩ := ld_s hr
      refine G.baldE (71) (by omega) (r0.a32) b44 e44 (tbd tv_X12_move rfl) ?_
      obtain ⟨R45, b45, eR45, hr⟩ := stR_s hr
      refine G.bast (78) (by omega) (r0.a43) b45 (tbd tv_X12_move rfl) ?_
      refine G.gen (P := fun w9 => RfV E w9 (setSr (setS R45 42 az) sy) ∧ Fr RfK f0 w9) ⟨by rw [eR45]; exact r0.p43 _, Fr.up hf ⟨by decide, by decide⟩⟩ (fun u45 p45 => ?_)
      obtain ⟨r45, h45⟩ := p45
      refine G.go tv_X12_move 2 3 [(0, .ref (gAd E (71))), (1, .int (x1)), (2, .ref (gAd E (78))), (3, .int (x3)), (4, .int (x4 + (1 : Int32)))] [] rfl ?_
      refine G.less [(0, .ref (gAd E (71))), (1, .int (x1)), (2, .ref (gAd E (78))), (3, .int (x3)), (4, .int (x4 + (1 : Int32)))] [0, 1, 2, 3, 4] rfl ?_
      exact ih _ _ _ _ _ hr _ ⟨_, _, r45⟩ h45
set_option maxRecDepth 100000 in
set_option maxHeartbeats 4000000 in
theorem k_X12_move_71_78 (E : gE) (f : Nat → va_E) (hE : 94 ≤ gN E) (R : RfT) (w : RW E f R) (a1 : Int32) (a3 : Int32) (R9 : RfT) (hr : e_move_71_78 R a1 a3 = some R9) : Ct E 1 yX12_move cX12_move 5 none [.ref (gAd E (71)), .int (a1), .ref (gAd E (78)), .int (a3)] f (fun v g => v = none ∧ RW E g R9 ∧ Fr RfK f g, fun _ _ => False) := by
  obtain ⟨az, sy, r0⟩ := w
  refine Ct.of (by decide) (Nat.le_of_ble_eq_true rfl) (fun sz => ?_)
  refine G.eql [(0, .ref (gAd E (71))), (1, .int (a1)), (2, .ref (gAd E (78))), (3, .int (a3))] rfl ?_
  unfold e_move_71_78 at hr
  refine G.go tv_X12_move 2 3 [(0, .ref (gAd E (71))), (1, .int (a1)), (2, .ref (gAd E (78))), (3, .int (a3)), (4, .int ((0 : Int32)))] [] rfl ?_
  refine G.less [(0, .ref (gAd E (71))), (1, .int (a1)), (2, .ref (gAd E (78))), (3, .int (a3)), (4, .int ((0 : Int32)))] [0, 1, 2, 3, 4] rfl ?_
  exact l_X12_move_71_78_3 E f sz _ hE _ _ _ _ _ _ hr _ ⟨_, _, r0⟩ Fr.rf
def e_move_68_78_3  : Nat → RfT → Int32 → Int32 → Int32 → Option (RfT)
  | 0, _, _, _, _ => none
  | n + 1, R, x1, x3, x4 => if ((128 : Int32)) ≤ x4 then some R else ld (rA R 28) 131072 ((x1) + (x4)) (fun v47 => stR R 43 128 ((x3) + (x4)) (vp_nar .byte v47) (fun R48 => e_move_68_78_3  n R48 x1 x3 (x4 + (1 : Int32))))
def e_move_68_78  (R : RfT) (a1 : Int32) (a3 : Int32) : Option (RfT) := e_move_68_78_3  fuL R a1 a3 ((0 : Int32))
set_option maxRecDepth 100000 in
set_option maxHeartbeats 4000000 in
theorem l_X12_move_68_78_3 (E : gE) (f0 : Nat → va_E) (sz : Nat) (QA : Nat → Prop) (hE : 94 ≤ gN E) : ∀ (n : Nat), ∀ (R : RfT) (x1 : Int32) (x3 : Int32) (x4 : Int32) (R9 : RfT) (hr : e_move_68_78_3  n R x1 x3 x4 = some R9) (f : Nat → va_E) (w : RW E f R) (hf : Fr RfK f0 f), G E (1, yX12_move, 5, none, sz, QA) cX12_move (gO E (1, yX12_move, 5, none, sz, QA) (fun v g => v = none ∧ RW E g R9 ∧ Fr RfK f0 g, fun _ _ => False)) 3 [(0, .ref (gAd E (68))), (1, .int (x1)), (2, .ref (gAd E (78))), (3, .int (x3)), (4, .int (x4))] [] f := by
  intro n
  induction n with
  | zero =>
    intro R x1 x3 x4 R9 hr f w hf
    cases hr
  | succ n ih =>
    intro R x1 x3 x4 R9 hr f w hf
    obtain ⟨az, sy, r0⟩ := w
    unfold e_move_68_78_3 at hr
    refine G.go tv_X12_move 2 8 [(0, .ref (gAd E (68))), (1, .int (x1)), (2, .ref (gAd E (78))), (3, .int (x3)), (4, .int (x4))] [.int ((128 : Int32)), .int (x4)] rfl ?_
    refine G.cmp_ge 29 (tbd tv_X12_move rfl) (by decide) (fun c8 => ?_) (fun c8 => ?_)
    · replace hr := ite_t c8 hr
      cases hr
      exact G.vret rfl ⟨rfl, ⟨_, _, r0⟩, hf⟩ (tbd tv_X12_move rfl)
    · replace hr := ite_f c8 hr
      refine G.go tv_X12_move 8 21 [(0, .ref (gAd E (68))), (1, .int (x1)), (2, .ref (gAd E (78))), (3, .int (x3)), (4, .int (x4))] [.int ((x1) + (x4)), .ref (gAd E (68)), .int ((x3) + (x4)), .ref (gAd E (78))] rfl ?_
      obtain ⟨v47, b47, e47, hr⟩ := ld_s hr
      refine G.baldE (68) (by omega) (r0.a28) b47 e47 (tbd tv_X12_move rfl) ?_
      obtain ⟨R48, b48, eR48, hr⟩ := stR_s hr
      refine G.bast (78) (by omega) (r0.a43) b48 (tbd tv_X12_move rfl) ?_
      refine G.gen (P := fun w9 => RfV E w9 (setSr (setS R48 42 az) sy) ∧ Fr RfK f0 w9) ⟨by rw [eR48]; exact r0.p43 _, Fr.up hf ⟨by decide, by decide⟩⟩ (fun u48 p48 => ?_)
      obtain ⟨r48, h48⟩ := p48
      refine G.go tv_X12_move 2 3 [(0, .ref (gAd E (68))), (1, .int (x1)), (2, .ref (gAd E (78))), (3, .int (x3)), (4, .int (x4 + (1 : Int32)))] [] rfl ?_
      refine G.less [(0, .ref (gAd E (68))), (1, .int (x1)), (2, .ref (gAd E (78))), (3, .int (x3)), (4, .int (x4 + (1 : Int32)))] [0, 1, 2, 3, 4] rfl ?_
      exact ih _ _ _ _ _ hr _ ⟨_, _, r48⟩ h48
set_option maxRecDepth 100000 in
set_option maxHeartbeats 4000000 in
theorem k_X12_move_68_78 (E : gE) (f : Nat → va_E) (hE : 94 ≤ gN E) (R : RfT) (w : RW E f R) (a1 : Int32) (a3 : Int32) (R9 : RfT) (hr : e_move_68_78 R a1 a3 = some R9) : Ct E 1 yX12_move cX12_move 5 none [.ref (gAd E (68)), .int (a1), .ref (gAd E (78)), .int (a3)] f (fun v g => v = none ∧ RW E g R9 ∧ Fr RfK f g, fun _ _ => False) := by
  obtain ⟨az, sy, r0⟩ := w
  refine Ct.of (by decide) (Nat.le_of_ble_eq_true rfl) (fun sz => ?_)
  refine G.eql [(0, .ref (gAd E (68))), (1, .int (a1)), (2, .ref (gAd E (78))), (3, .int (a3))] rfl ?_
  unfold e_move_68_78 at hr
  refine G.go tv_X12_move 2 3 [(0, .ref (gAd E (68))), (1, .int (a1)), (2, .ref (gAd E (78))), (3, .int (a3)), (4, .int ((0 : Int32)))] [] rfl ?_
  refine G.less [(0, .ref (gAd E (68))), (1, .int (a1)), (2, .ref (gAd E (78))), (3, .int (a3)), (4, .int ((0 : Int32)))] [0, 1, 2, 3, 4] rfl ?_
  exact l_X12_move_68_78_3 E f sz _ hE _ _ _ _ _ _ hr _ ⟨_, _, r0⟩ Fr.rf
def e_move_65_78_3  : Nat → RfT → Int32 → Int32 → Int32 → Option (RfT)
  | 0, _, _, _, _ => none
  | n + 1, R, x1, x3, x4 => if ((128 : Int32)) ≤ x4 then some R else ld (rA R 24) 5120 ((x1) + (x4)) (fun v50 => stR R 43 128 ((x3) + (x4)) (vp_nar .byte v50) (fun R51 => e_move_65_78_3  n R51 x1 x3 (x4 + (1 : Int32))))
def e_move_65_78  (R : RfT) (a1 : Int32) (a3 : Int32) : Option (RfT) := e_move_65_78_3  fuL R a1 a3 ((0 : Int32))
set_option maxRecDepth 100000 in
set_option maxHeartbeats 4000000 in
theorem l_X12_move_65_78_3 (E : gE) (f0 : Nat → va_E) (sz : Nat) (QA : Nat → Prop) (hE : 94 ≤ gN E) : ∀ (n : Nat), ∀ (R : RfT) (x1 : Int32) (x3 : Int32) (x4 : Int32) (R9 : RfT) (hr : e_move_65_78_3  n R x1 x3 x4 = some R9) (f : Nat → va_E) (w : RW E f R) (hf : Fr RfK f0 f), G E (1, yX12_move, 5, none, sz, QA) cX12_move (gO E (1, yX12_move, 5, none, sz, QA) (fun v g => v = none ∧ RW E g R9 ∧ Fr RfK f0 g, fun _ _ => False)) 3 [(0, .ref (gAd E (65))), (1, .int (x1)), (2, .ref (gAd E (78))), (3, .int (x3)), (4, .int (x4))] [] f := by
  intro n
  induction n with
  | zero =>
    intro R x1 x3 x4 R9 hr f w hf
    cases hr
  | succ n ih =>
    intro R x1 x3 x4 R9 hr f w hf
    obtain ⟨az, sy, r0⟩ := w
    unfold e_move_65_78_3 at hr
    refine G.go tv_X12_move 2 8 [(0, .ref (gAd E (65))), (1, .int (x1)), (2, .ref (gAd E (78))), (3, .int (x3)), (4, .int (x4))] [.int ((128 : Int32)), .int (x4)] rfl ?_
    refine G.cmp_ge 29 (tbd tv_X12_move rfl) (by decide) (fun c8 => ?_) (fun c8 => ?_)
    · replace hr := ite_t c8 hr
      cases hr
      exact G.vret rfl ⟨rfl, ⟨_, _, r0⟩, hf⟩ (tbd tv_X12_move rfl)
    · replace hr := ite_f c8 hr
      refine G.go tv_X12_move 8 21 [(0, .ref (gAd E (65))), (1, .int (x1)), (2, .ref (gAd E (78))), (3, .int (x3)), (4, .int (x4))] [.int ((x1) + (x4)), .ref (gAd E (65)), .int ((x3) + (x4)), .ref (gAd E (78))] rfl ?_
      obtain ⟨v50, b50, e50, hr⟩ := ld_s hr
      refine G.baldE (65) (by omega) (r0.a24) b50 e50 (tbd tv_X12_move rfl) ?_
      obtain ⟨R51, b51, eR51, hr⟩ := stR_s hr
      refine G.bast (78) (by omega) (r0.a43) b51 (tbd tv_X12_move rfl) ?_
      refine G.gen (P := fun w9 => RfV E w9 (setSr (setS R51 42 az) sy) ∧ Fr RfK f0 w9) ⟨by rw [eR51]; exact r0.p43 _, Fr.up hf ⟨by decide, by decide⟩⟩ (fun u51 p51 => ?_)
      obtain ⟨r51, h51⟩ := p51
      refine G.go tv_X12_move 2 3 [(0, .ref (gAd E (65))), (1, .int (x1)), (2, .ref (gAd E (78))), (3, .int (x3)), (4, .int (x4 + (1 : Int32)))] [] rfl ?_
      refine G.less [(0, .ref (gAd E (65))), (1, .int (x1)), (2, .ref (gAd E (78))), (3, .int (x3)), (4, .int (x4 + (1 : Int32)))] [0, 1, 2, 3, 4] rfl ?_
      exact ih _ _ _ _ _ hr _ ⟨_, _, r51⟩ h51
set_option maxRecDepth 100000 in
set_option maxHeartbeats 4000000 in
theorem k_X12_move_65_78 (E : gE) (f : Nat → va_E) (hE : 94 ≤ gN E) (R : RfT) (w : RW E f R) (a1 : Int32) (a3 : Int32) (R9 : RfT) (hr : e_move_65_78 R a1 a3 = some R9) : Ct E 1 yX12_move cX12_move 5 none [.ref (gAd E (65)), .int (a1), .ref (gAd E (78)), .int (a3)] f (fun v g => v = none ∧ RW E g R9 ∧ Fr RfK f g, fun _ _ => False) := by
  obtain ⟨az, sy, r0⟩ := w
  refine Ct.of (by decide) (Nat.le_of_ble_eq_true rfl) (fun sz => ?_)
  refine G.eql [(0, .ref (gAd E (65))), (1, .int (a1)), (2, .ref (gAd E (78))), (3, .int (a3))] rfl ?_
  unfold e_move_65_78 at hr
  refine G.go tv_X12_move 2 3 [(0, .ref (gAd E (65))), (1, .int (a1)), (2, .ref (gAd E (78))), (3, .int (a3)), (4, .int ((0 : Int32)))] [] rfl ?_
  refine G.less [(0, .ref (gAd E (65))), (1, .int (a1)), (2, .ref (gAd E (78))), (3, .int (a3)), (4, .int ((0 : Int32)))] [0, 1, 2, 3, 4] rfl ?_
  exact l_X12_move_65_78_3 E f sz _ hE _ _ _ _ _ _ hr _ ⟨_, _, r0⟩ Fr.rf
def e_move_63_78_3  : Nat → RfT → Int32 → Int32 → Int32 → Option (RfT)
  | 0, _, _, _, _ => none
  | n + 1, R, x1, x3, x4 => if ((128 : Int32)) ≤ x4 then some R else ld (rA R 17) 8192 ((x1) + (x4)) (fun v53 => stR R 43 128 ((x3) + (x4)) (vp_nar .byte v53) (fun R54 => e_move_63_78_3  n R54 x1 x3 (x4 + (1 : Int32))))
def e_move_63_78  (R : RfT) (a1 : Int32) (a3 : Int32) : Option (RfT) := e_move_63_78_3  fuL R a1 a3 ((0 : Int32))
set_option maxRecDepth 100000 in
set_option maxHeartbeats 4000000 in
theorem l_X12_move_63_78_3 (E : gE) (f0 : Nat → va_E) (sz : Nat) (QA : Nat → Prop) (hE : 94 ≤ gN E) : ∀ (n : Nat), ∀ (R : RfT) (x1 : Int32) (x3 : Int32) (x4 : Int32) (R9 : RfT) (hr : e_move_63_78_3  n R x1 x3 x4 = some R9) (f : Nat → va_E) (w : RW E f R) (hf : Fr RfK f0 f), G E (1, yX12_move, 5, none, sz, QA) cX12_move (gO E (1, yX12_move, 5, none, sz, QA) (fun v g => v = none ∧ RW E g R9 ∧ Fr RfK f0 g, fun _ _ => False)) 3 [(0, .ref (gAd E (63))), (1, .int (x1)), (2, .ref (gAd E (78))), (3, .int (x3)), (4, .int (x4))] [] f := by
  intro n
  induction n with
  | zero =>
    intro R x1 x3 x4 R9 hr f w hf
    cases hr
  | succ n ih =>
    intro R x1 x3 x4 R9 hr f w hf
    obtain ⟨az, sy, r0⟩ := w
    unfold e_move_63_78_3 at hr
    refine G.go tv_X12_move 2 8 [(0, .ref (gAd E (63))), (1, .int (x1)), (2, .ref (gAd E (78))), (3, .int (x3)), (4, .int (x4))] [.int ((128 : Int32)), .int (x4)] rfl ?_
    refine G.cmp_ge 29 (tbd tv_X12_move rfl) (by decide) (fun c8 => ?_) (fun c8 => ?_)
    · replace hr := ite_t c8 hr
      cases hr
      exact G.vret rfl ⟨rfl, ⟨_, _, r0⟩, hf⟩ (tbd tv_X12_move rfl)
    · replace hr := ite_f c8 hr
      refine G.go tv_X12_move 8 21 [(0, .ref (gAd E (63))), (1, .int (x1)), (2, .ref (gAd E (78))), (3, .int (x3)), (4, .int (x4))] [.int ((x1) + (x4)), .ref (gAd E (63)), .int ((x3) + (x4)), .ref (gAd E (78))] rfl ?_
      obtain ⟨v53, b53, e53, hr⟩ := ld_s hr
      refine G.baldE (63) (by omega) (r0.a17) b53 e53 (tbd tv_X12_move rfl) ?_
      obtain ⟨R54, b54, eR54, hr⟩ := stR_s hr
      refine G.bast (78) (by omega) (r0.a43) b54 (tbd tv_X12_move rfl) ?_
      refine G.gen (P := fun w9 => RfV E w9 (setSr (setS R54 42 az) sy) ∧ Fr RfK f0 w9) ⟨by rw [eR54]; exact r0.p43 _, Fr.up hf ⟨by decide, by decide⟩⟩ (fun u54 p54 => ?_)
      obtain ⟨r54, h54⟩ := p54
      refine G.go tv_X12_move 2 3 [(0, .ref (gAd E (63))), (1, .int (x1)), (2, .ref (gAd E (78))), (3, .int (x3)), (4, .int (x4 + (1 : Int32)))] [] rfl ?_
      refine G.less [(0, .ref (gAd E (63))), (1, .int (x1)), (2, .ref (gAd E (78))), (3, .int (x3)), (4, .int (x4 + (1 : Int32)))] [0, 1, 2, 3, 4] rfl ?_
      exact ih _ _ _ _ _ hr _ ⟨_, _, r54⟩ h54
set_option maxRecDepth 100000 in
set_option maxHeartbeats 4000000 in
theorem k_X12_move_63_78 (E : gE) (f : Nat → va_E) (hE : 94 ≤ gN E) (R : RfT) (w : RW E f R) (a1 : Int32) (a3 : Int32) (R9 : RfT) (hr : e_move_63_78 R a1 a3 = some R9) : Ct E 1 yX12_move cX12_move 5 none [.ref (gAd E (63)), .int (a1), .ref (gAd E (78)), .int (a3)] f (fun v g => v = none ∧ RW E g R9 ∧ Fr RfK f g, fun _ _ => False) := by
  obtain ⟨az, sy, r0⟩ := w
  refine Ct.of (by decide) (Nat.le_of_ble_eq_true rfl) (fun sz => ?_)
  refine G.eql [(0, .ref (gAd E (63))), (1, .int (a1)), (2, .ref (gAd E (78))), (3, .int (a3))] rfl ?_
  unfold e_move_63_78 at hr
  refine G.go tv_X12_move 2 3 [(0, .ref (gAd E (63))), (1, .int (a1)), (2, .ref (gAd E (78))), (3, .int (a3)), (4, .int ((0 : Int32)))] [] rfl ?_
  refine G.less [(0, .ref (gAd E (63))), (1, .int (a1)), (2, .ref (gAd E (78))), (3, .int (a3)), (4, .int ((0 : Int32)))] [0, 1, 2, 3, 4] rfl ?_
  exact l_X12_move_63_78_3 E f sz _ hE _ _ _ _ _ _ hr _ ⟨_, _, r0⟩ Fr.rf
def e_move_60_78_3  : Nat → RfT → Int32 → Int32 → Int32 → Option (RfT)
  | 0, _, _, _, _ => none
  | n + 1, R, x1, x3, x4 => if ((128 : Int32)) ≤ x4 then some R else ld (rA R 8) 32768 ((x1) + (x4)) (fun v56 => stR R 43 128 ((x3) + (x4)) (vp_nar .byte v56) (fun R57 => e_move_60_78_3  n R57 x1 x3 (x4 + (1 : Int32))))
def e_move_60_78  (R : RfT) (a1 : Int32) (a3 : Int32) : Option (RfT) := e_move_60_78_3  fuL R a1 a3 ((0 : Int32))
set_option maxRecDepth 100000 in
set_option maxHeartbeats 4000000 in
theorem l_X12_move_60_78_3 (E : gE) (f0 : Nat → va_E) (sz : Nat) (QA : Nat → Prop) (hE : 94 ≤ gN E) : ∀ (n : Nat), ∀ (R : RfT) (x1 : Int32) (x3 : Int32) (x4 : Int32) (R9 : RfT) (hr : e_move_60_78_3  n R x1 x3 x4 = some R9) (f : Nat → va_E) (w : RW E f R) (hf : Fr RfK f0 f), G E (1, yX12_move, 5, none, sz, QA) cX12_move (gO E (1, yX12_move, 5, none, sz, QA) (fun v g => v = none ∧ RW E g R9 ∧ Fr RfK f0 g, fun _ _ => False)) 3 [(0, .ref (gAd E (60))), (1, .int (x1)), (2, .ref (gAd E (78))), (3, .int (x3)), (4, .int (x4))] [] f := by
  intro n
  induction n with
  | zero =>
    intro R x1 x3 x4 R9 hr f w hf
    cases hr
  | succ n ih =>
    intro R x1 x3 x4 R9 hr f w hf
    obtain ⟨az, sy, r0⟩ := w
    unfold e_move_60_78_3 at hr
    refine G.go tv_X12_move 2 8 [(0, .ref (gAd E (60))), (1, .int (x1)), (2, .ref (gAd E (78))), (3, .int (x3)), (4, .int (x4))] [.int ((128 : Int32)), .int (x4)] rfl ?_
    refine G.cmp_ge 29 (tbd tv_X12_move rfl) (by decide) (fun c8 => ?_) (fun c8 => ?_)
    · replace hr := ite_t c8 hr
      cases hr
      exact G.vret rfl ⟨rfl, ⟨_, _, r0⟩, hf⟩ (tbd tv_X12_move rfl)
    · replace hr := ite_f c8 hr
      refine G.go tv_X12_move 8 21 [(0, .ref (gAd E (60))), (1, .int (x1)), (2, .ref (gAd E (78))), (3, .int (x3)), (4, .int (x4))] [.int ((x1) + (x4)), .ref (gAd E (60)), .int ((x3) + (x4)), .ref (gAd E (78))] rfl ?_
      obtain ⟨v56, b56, e56, hr⟩ := ld_s hr
      refine G.baldE (60) (by omega) (r0.a8) b56 e56 (tbd tv_X12_move rfl) ?_
      obtain ⟨R57, b57, eR57, hr⟩ := stR_s hr
      refine G.bast (78) (by omega) (r0.a43) b57 (tbd tv_X12_move rfl) ?_
      refine G.gen (P := fun w9 => RfV E w9 (setSr (setS R57 42 az) sy) ∧ Fr RfK f0 w9) ⟨by rw [eR57]; exact r0.p43 _, Fr.up hf ⟨by decide, by decide⟩⟩ (fun u57 p57 => ?_)
      obtain ⟨r57, h57⟩ := p57
      refine G.go tv_X12_move 2 3 [(0, .ref (gAd E (60))), (1, .int (x1)), (2, .ref (gAd E (78))), (3, .int (x3)), (4, .int (x4 + (1 : Int32)))] [] rfl ?_
      refine G.less [(0, .ref (gAd E (60))), (1, .int (x1)), (2, .ref (gAd E (78))), (3, .int (x3)), (4, .int (x4 + (1 : Int32)))] [0, 1, 2, 3, 4] rfl ?_
      exact ih _ _ _ _ _ hr _ ⟨_, _, r57⟩ h57
set_option maxRecDepth 100000 in
set_option maxHeartbeats 4000000 in
theorem k_X12_move_60_78 (E : gE) (f : Nat → va_E) (hE : 94 ≤ gN E) (R : RfT) (w : RW E f R) (a1 : Int32) (a3 : Int32) (R9 : RfT) (hr : e_move_60_78 R a1 a3 = some R9) : Ct E 1 yX12_move cX12_move 5 none [.ref (gAd E (60)), .int (a1), .ref (gAd E (78)), .int (a3)] f (fun v g => v = none ∧ RW E g R9 ∧ Fr RfK f g, fun _ _ => False) := by
  obtain ⟨az, sy, r0⟩ := w
  refine Ct.of (by decide) (Nat.le_of_ble_eq_true rfl) (fun sz => ?_)
  refine G.eql [(0, .ref (gAd E (60))), (1, .int (a1)), (2, .ref (gAd E (78))), (3, .int (a3))] rfl ?_
  unfold e_move_60_78 at hr
  refine G.go tv_X12_move 2 3 [(0, .ref (gAd E (60))), (1, .int (a1)), (2, .ref (gAd E (78))), (3, .int (a3)), (4, .int ((0 : Int32)))] [] rfl ?_
  refine G.less [(0, .ref (gAd E (60))), (1, .int (a1)), (2, .ref (gAd E (78))), (3, .int (a3)), (4, .int ((0 : Int32)))] [0, 1, 2, 3, 4] rfl ?_
  exact l_X12_move_60_78_3 E f sz _ hE _ _ _ _ _ _ hr _ ⟨_, _, r0⟩ Fr.rf
def e_move_58_78_3  : Nat → RfT → Int32 → Int32 → Int32 → Option (RfT)
  | 0, _, _, _, _ => none
  | n + 1, R, x1, x3, x4 => if ((128 : Int32)) ≤ x4 then some R else ld (rA R 6) 131072 ((x1) + (x4)) (fun v59 => stR R 43 128 ((x3) + (x4)) (vp_nar .byte v59) (fun R60 => e_move_58_78_3  n R60 x1 x3 (x4 + (1 : Int32))))
def e_move_58_78  (R : RfT) (a1 : Int32) (a3 : Int32) : Option (RfT) := e_move_58_78_3  fuL R a1 a3 ((0 : Int32))
set_option maxRecDepth 100000 in
set_option maxHeartbeats 4000000 in
theorem l_X12_move_58_78_3 (E : gE) (f0 : Nat → va_E) (sz : Nat) (QA : Nat → Prop) (hE : 94 ≤ gN E) : ∀ (n : Nat), ∀ (R : RfT) (x1 : Int32) (x3 : Int32) (x4 : Int32) (R9 : RfT) (hr : e_move_58_78_3  n R x1 x3 x4 = some R9) (f : Nat → va_E) (w : RW E f R) (hf : Fr RfK f0 f), G E (1, yX12_move, 5, none, sz, QA) cX12_move (gO E (1, yX12_move, 5, none, sz, QA) (fun v g => v = none ∧ RW E g R9 ∧ Fr RfK f0 g, fun _ _ => False)) 3 [(0, .ref (gAd E (58))), (1, .int (x1)), (2, .ref (gAd E (78))), (3, .int (x3)), (4, .int (x4))] [] f := by
  intro n
  induction n with
  | zero =>
    intro R x1 x3 x4 R9 hr f w hf
    cases hr
  | succ n ih =>
    intro R x1 x3 x4 R9 hr f w hf
    obtain ⟨az, sy, r0⟩ := w
    unfold e_move_58_78_3 at hr
    refine G.go tv_X12_move 2 8 [(0, .ref (gAd E (58))), (1, .int (x1)), (2, .ref (gAd E (78))), (3, .int (x3)), (4, .int (x4))] [.int ((128 : Int32)), .int (x4)] rfl ?_
    refine G.cmp_ge 29 (tbd tv_X12_move rfl) (by decide) (fun c8 => ?_) (fun c8 => ?_)
    · replace hr := ite_t c8 hr
      cases hr
      exact G.vret rfl ⟨rfl, ⟨_, _, r0⟩, hf⟩ (tbd tv_X12_move rfl)
    · replace hr := ite_f c8 hr
      refine G.go tv_X12_move 8 21 [(0, .ref (gAd E (58))), (1, .int (x1)), (2, .ref (gAd E (78))), (3, .int (x3)), (4, .int (x4))] [.int ((x1) + (x4)), .ref (gAd E (58)), .int ((x3) + (x4)), .ref (gAd E (78))] rfl ?_
      obtain ⟨v59, b59, e59, hr⟩ := ld_s hr
      refine G.baldE (58) (by omega) (r0.a6) b59 e59 (tbd tv_X12_move rfl) ?_
      obtain ⟨R60, b60, eR60, hr⟩ := stR_s hr
      refine G.bast (78) (by omega) (r0.a43) b60 (tbd tv_X12_move rfl) ?_
      refine G.gen (P := fun w9 => RfV E w9 (setSr (setS R60 42 az) sy) ∧ Fr RfK f0 w9) ⟨by rw [eR60]; exact r0.p43 _, Fr.up hf ⟨by decide, by decide⟩⟩ (fun u60 p60 => ?_)
      obtain ⟨r60, h60⟩ := p60
      refine G.go tv_X12_move 2 3 [(0, .ref (gAd E (58))), (1, .int (x1)), (2, .ref (gAd E (78))), (3, .int (x3)), (4, .int (x4 + (1 : Int32)))] [] rfl ?_
      refine G.less [(0, .ref (gAd E (58))), (1, .int (x1)), (2, .ref (gAd E (78))), (3, .int (x3)), (4, .int (x4 + (1 : Int32)))] [0, 1, 2, 3, 4] rfl ?_
      exact ih _ _ _ _ _ hr _ ⟨_, _, r60⟩ h60
set_option maxRecDepth 100000 in
set_option maxHeartbeats 4000000 in
theorem k_X12_move_58_78 (E : gE) (f : Nat → va_E) (hE : 94 ≤ gN E) (R : RfT) (w : RW E f R) (a1 : Int32) (a3 : Int32) (R9 : RfT) (hr : e_move_58_78 R a1 a3 = some R9) : Ct E 1 yX12_move cX12_move 5 none [.ref (gAd E (58)), .int (a1), .ref (gAd E (78)), .int (a3)] f (fun v g => v = none ∧ RW E g R9 ∧ Fr RfK f g, fun _ _ => False) := by
  obtain ⟨az, sy, r0⟩ := w
  refine Ct.of (by decide) (Nat.le_of_ble_eq_true rfl) (fun sz => ?_)
  refine G.eql [(0, .ref (gAd E (58))), (1, .int (a1)), (2, .ref (gAd E (78))), (3, .int (a3))] rfl ?_
  unfold e_move_58_78 at hr
  refine G.go tv_X12_move 2 3 [(0, .ref (gAd E (58))), (1, .int (a1)), (2, .ref (gAd E (78))), (3, .int (a3)), (4, .int ((0 : Int32)))] [] rfl ?_
  refine G.less [(0, .ref (gAd E (58))), (1, .int (a1)), (2, .ref (gAd E (78))), (3, .int (a3)), (4, .int ((0 : Int32)))] [0, 1, 2, 3, 4] rfl ?_
  exact l_X12_move_58_78_3 E f sz _ hE _ _ _ _ _ _ hr _ ⟨_, _, r0⟩ Fr.rf
def e_see  (R : RfT) (a0 : Int32) (a1 : Int32) : Option (RfT) := bnd2 (e_lookUp R a0 a1) (fun k42 v42 => if k42 = 71 then bnd (e_move_71_78 R v42 ((0 : Int32))) (fun R43 => some R43) else if k42 = 68 then bnd (e_move_68_78 R v42 ((0 : Int32))) (fun R46 => some R46) else if k42 = 65 then bnd (e_move_65_78 R v42 ((0 : Int32))) (fun R49 => some R49) else if k42 = 63 then bnd (e_move_63_78 R v42 ((0 : Int32))) (fun R52 => some R52) else if k42 = 60 then bnd (e_move_60_78 R v42 ((0 : Int32))) (fun R55 => some R55) else if k42 = 58 then bnd (e_move_58_78 R v42 ((0 : Int32))) (fun R58 => some R58) else none)
set_option maxRecDepth 100000 in
set_option maxHeartbeats 4000000 in
theorem k_X12_see (E : gE) (f : Nat → va_E) (hE : 94 ≤ gN E) (R : RfT) (w : RW E f R) (a0 : Int32) (a1 : Int32) (R9 : RfT) (hr : e_see R a0 a1 = some R9) : Ct E 2 yX12_see cX12_see 3 none [.ref (gAd E (56)), .int (a0), .int (a1)] f (fun v g => v = none ∧ RW E g R9 ∧ Fr RfK f g, fun _ _ => False) := by
  obtain ⟨az, sy, r0⟩ := w
  refine Ct.of (by decide) (Nat.le_of_ble_eq_true rfl) (fun sz => ?_)
  refine G.eql [(0, .ref (gAd E (56))), (1, .int (a0)), (2, .int (a1))] rfl ?_
  unfold e_see at hr
  refine G.go tv_X12_see 3 3 [(0, .ref (gAd E (56))), (1, .int (a0)), (2, .int (a1))] [.int (a1), .int (a0), .ref (gAd E (56))] rfl ?_
  obtain ⟨k42, v42, hv42, hr⟩ := bnd2_s hr
  refine G.callV (56) [.int (a0), .int (a1)] [] (k_X12_lookUp E _ hE R ⟨_, _, r0⟩ a0 a1 k42 v42 hv42) cls_X12 (by omega) (r0.o) cw_X12_222 w_2384 w_77 (Nat.le_of_ble_eq_true rfl) rfl (Nat.le_of_ble_eq_true rfl) (tbd tv_X12_see rfl) (fun v42w f42 q42 => ?_) (fun _ _ h => h.elim)
  obtain ⟨rfl, r42, fa42⟩ := q42
  refine G.eqs [] rfl ?_
  by_cases ck42_71 : k42 = 71
  · replace hr := ite_t ck42_71 hr
    subst ck42_71
    refine G.go tv_X12_see 1 7 [(0, .ref (gAd E (56))), (1, .int (a0)), (2, .int (a1))] [.ref (gAd E (56))] rfl ?_
    refine G.rg r42 hE 41 (.ref (gAd E (71))) (by decide) rfl (tbd tv_X12_see rfl) w_2106 ?_
    refine G.go tv_X12_see 1 11 [(0, .ref (gAd E (56))), (1, .int (a0)), (2, .int (a1))] [.ref (gAd E (56)), .ref (gAd E (71))] rfl ?_
    refine G.rg r42 hE 42 (.int (v42)) (by decide) rfl (tbd tv_X12_see rfl) w_2107 ?_
    refine G.go tv_X12_see 1 15 [(0, .ref (gAd E (56))), (1, .int (a0)), (2, .int (a1))] [.ref (gAd E (56)), .int (v42), .ref (gAd E (71))] rfl ?_
    refine G.rg r42 hE 43 (.ref (gAd E (78))) (by decide) rfl (tbd tv_X12_see rfl) w_2108 ?_
    refine G.go tv_X12_see 1 19 [(0, .ref (gAd E (56))), (1, .int (a0)), (2, .int (a1))] [.int ((0 : Int32)), .ref (gAd E (78)), .int (v42), .ref (gAd E (71))] rfl ?_
    obtain ⟨R43, hv43, hr⟩ := bnd_s hr
    refine G.callS [.ref (gAd E (71)), .int (v42), .ref (gAd E (78)), .int ((0 : Int32))] [] (k_X12_move_71_78 E _ hE R ⟨_, _, r42⟩ v42 ((0 : Int32)) R43 hv43) cw_X12_190 w_2307 (Nat.le_of_ble_eq_true rfl) rfl (Nat.le_of_ble_eq_true rfl) (tbd tv_X12_see rfl) (fun v43w f43 q43 => ?_) (fun _ _ h => h.elim)
    obtain ⟨rfl, ⟨az43, sy43, r43⟩, fa43⟩ := q43
    refine G.eqs [] rfl ?_
    cases hr
    exact G.vret rfl ⟨rfl, ⟨_, _, r43⟩, ((Fr.rf.tr fa42 (fun _ h => h)).tr fa43 (fun _ h => h))⟩ (tbd tv_X12_see rfl)
  replace hr := ite_f ck42_71 hr
  by_cases ck42_68 : k42 = 68
  · replace hr := ite_t ck42_68 hr
    subst ck42_68
    refine G.go tv_X12_see 1 7 [(0, .ref (gAd E (56))), (1, .int (a0)), (2, .int (a1))] [.ref (gAd E (56))] rfl ?_
    refine G.rg r42 hE 41 (.ref (gAd E (68))) (by decide) rfl (tbd tv_X12_see rfl) w_2106 ?_
    refine G.go tv_X12_see 1 11 [(0, .ref (gAd E (56))), (1, .int (a0)), (2, .int (a1))] [.ref (gAd E (56)), .ref (gAd E (68))] rfl ?_
    refine G.rg r42 hE 42 (.int (v42)) (by decide) rfl (tbd tv_X12_see rfl) w_2107 ?_
    refine G.go tv_X12_see 1 15 [(0, .ref (gAd E (56))), (1, .int (a0)), (2, .int (a1))] [.ref (gAd E (56)), .int (v42), .ref (gAd E (68))] rfl ?_
    refine G.rg r42 hE 43 (.ref (gAd E (78))) (by decide) rfl (tbd tv_X12_see rfl) w_2108 ?_
    refine G.go tv_X12_see 1 19 [(0, .ref (gAd E (56))), (1, .int (a0)), (2, .int (a1))] [.int ((0 : Int32)), .ref (gAd E (78)), .int (v42), .ref (gAd E (68))] rfl ?_
    obtain ⟨R46, hv46, hr⟩ := bnd_s hr
    refine G.callS [.ref (gAd E (68)), .int (v42), .ref (gAd E (78)), .int ((0 : Int32))] [] (k_X12_move_68_78 E _ hE R ⟨_, _, r42⟩ v42 ((0 : Int32)) R46 hv46) cw_X12_190 w_2307 (Nat.le_of_ble_eq_true rfl) rfl (Nat.le_of_ble_eq_true rfl) (tbd tv_X12_see rfl) (fun v46w f46 q46 => ?_) (fun _ _ h => h.elim)
    obtain ⟨rfl, ⟨az46, sy46, r46⟩, fa46⟩ := q46
    refine G.eqs [] rfl ?_
    cases hr
    exact G.vret rfl ⟨rfl, ⟨_, _, r46⟩, ((Fr.rf.tr fa42 (fun _ h => h)).tr fa46 (fun _ h => h))⟩ (tbd tv_X12_see rfl)
  replace hr := ite_f ck42_68 hr
  by_cases ck42_65 : k42 = 65
  · replace hr := ite_t ck42_65 hr
    subst ck42_65
    refine G.go tv_X12_see 1 7 [(0, .ref (gAd E (56))), (1, .int (a0)), (2, .int (a1))] [.ref (gAd E (56))] rfl ?_
    refine G.rg r42 hE 41 (.ref (gAd E (65))) (by decide) rfl (tbd tv_X12_see rfl) w_2106 ?_
    refine G.go tv_X12_see 1 11 [(0, .ref (gAd E (56))), (1, .int (a0)), (2, .int (a1))] [.ref (gAd E (56)), .ref (gAd E (65))] rfl ?_
    refine G.rg r42 hE 42 (.int (v42)) (by decide) rfl (tbd tv_X12_see rfl) w_2107 ?_
    refine G.go tv_X12_see 1 15 [(0, .ref (gAd E (56))), (1, .int (a0)), (2, .int (a1))] [.ref (gAd E (56)), .int (v42), .ref (gAd E (65))] rfl ?_
    refine G.rg r42 hE 43 (.ref (gAd E (78))) (by decide) rfl (tbd tv_X12_see rfl) w_2108 ?_
    refine G.go tv_X12_see 1 19 [(0, .ref (gAd E (56))), (1, .int (a0)), (2, .int (a1))] [.int ((0 : Int32)), .ref (gAd E (78)), .int (v42), .ref (gAd E (65))] rfl ?_
    obtain ⟨R49, hv49, hr⟩ := bnd_s hr
    refine G.callS [.ref (gAd E (65)), .int (v42), .ref (gAd E (78)), .int ((0 : Int32))] [] (k_X12_move_65_78 E _ hE R ⟨_, _, r42⟩ v42 ((0 : Int32)) R49 hv49) cw_X12_190 w_2307 (Nat.le_of_ble_eq_true rfl) rfl (Nat.le_of_ble_eq_true rfl) (tbd tv_X12_see rfl) (fun v49w f49 q49 => ?_) (fun _ _ h => h.elim)
    obtain ⟨rfl, ⟨az49, sy49, r49⟩, fa49⟩ := q49
    refine G.eqs [] rfl ?_
    cases hr
    exact G.vret rfl ⟨rfl, ⟨_, _, r49⟩, ((Fr.rf.tr fa42 (fun _ h => h)).tr fa49 (fun _ h => h))⟩ (tbd tv_X12_see rfl)
  replace hr := ite_f ck42_65 hr
  by_cases ck42_63 : k42 = 63
  · replace hr := ite_t ck42_63 hr
    subst ck42_63
    refine G.go tv_X12_see 1 7 [(0, .ref (gAd E (56))), (1, .int (a0)), (2, .int (a1))] [.ref (gAd E (56))] rfl ?_
    refine G.rg r42 hE 41 (.ref (gAd E (63))) (by decide) rfl (tbd tv_X12_see rfl) w_2106 ?_
    refine G.go tv_X12_see 1 11 [(0, .ref (gAd E (56))), (1, .int (a0)), (2, .int (a1))] [.ref (gAd E (56)), .ref (gAd E (63))] rfl ?_
    refine G.rg r42 hE 42 (.int (v42)) (by decide) rfl (tbd tv_X12_see rfl) w_2107 ?_
    refine G.go tv_X12_see 1 15 [(0, .ref (gAd E (56))), (1, .int (a0)), (2, .int (a1))] [.ref (gAd E (56)), .int (v42), .ref (gAd E (63))] rfl ?_
    refine G.rg r42 hE 43 (.ref (gAd E (78))) (by decide) rfl (tbd tv_X12_see rfl) w_2108 ?_
    refine G.go tv_X12_see 1 19 [(0, .ref (gAd E (56))), (1, .int (a0)), (2, .int (a1))] [.int ((0 : Int32)), .ref (gAd E (78)), .int (v42), .ref (gAd E (63))] rfl ?_
    obtain ⟨R52, hv52, hr⟩ := bnd_s hr
    refine G.callS [.ref (gAd E (63)), .int (v42), .ref (gAd E (78)), .int ((0 : Int32))] [] (k_X12_move_63_78 E _ hE R ⟨_, _, r42⟩ v42 ((0 : Int32)) R52 hv52) cw_X12_190 w_2307 (Nat.le_of_ble_eq_true rfl) rfl (Nat.le_of_ble_eq_true rfl) (tbd tv_X12_see rfl) (fun v52w f52 q52 => ?_) (fun _ _ h => h.elim)
    obtain ⟨rfl, ⟨az52, sy52, r52⟩, fa52⟩ := q52
    refine G.eqs [] rfl ?_
    cases hr
    exact G.vret rfl ⟨rfl, ⟨_, _, r52⟩, ((Fr.rf.tr fa42 (fun _ h => h)).tr fa52 (fun _ h => h))⟩ (tbd tv_X12_see rfl)
  replace hr := ite_f ck42_63 hr
  by_cases ck42_60 : k42 = 60
  · replace hr := ite_t ck42_60 hr
    subst ck42_60
    refine G.go tv_X12_see 1 7 [(0, .ref (gAd E (56))), (1, .int (a0)), (2, .int (a1))] [.ref (gAd E (56))] rfl ?_
    refine G.rg r42 hE 41 (.ref (gAd E (60))) (by decide) rfl (tbd tv_X12_see rfl) w_2106 ?_
    refine G.go tv_X12_see 1 11 [(0, .ref (gAd E (56))), (1, .int (a0)), (2, .int (a1))] [.ref (gAd E (56)), .ref (gAd E (60))] rfl ?_
    refine G.rg r42 hE 42 (.int (v42)) (by decide) rfl (tbd tv_X12_see rfl) w_2107 ?_
    refine G.go tv_X12_see 1 15 [(0, .ref (gAd E (56))), (1, .int (a0)), (2, .int (a1))] [.ref (gAd E (56)), .int (v42), .ref (gAd E (60))] rfl ?_
    refine G.rg r42 hE 43 (.ref (gAd E (78))) (by decide) rfl (tbd tv_X12_see rfl) w_2108 ?_
    refine G.go tv_X12_see 1 19 [(0, .ref (gAd E (56))), (1, .int (a0)), (2, .int (a1))] [.int ((0 : Int32)), .ref (gAd E (78)), .int (v42), .ref (gAd E (60))] rfl ?_
    obtain ⟨R55, hv55, hr⟩ := bnd_s hr
    refine G.callS [.ref (gAd E (60)), .int (v42), .ref (gAd E (78)), .int ((0 : Int32))] [] (k_X12_move_60_78 E _ hE R ⟨_, _, r42⟩ v42 ((0 : Int32)) R55 hv55) cw_X12_190 w_2307 (Nat.le_of_ble_eq_true rfl) rfl (Nat.le_of_ble_eq_true rfl) (tbd tv_X12_see rfl) (fun v55w f55 q55 => ?_) (fun _ _ h => h.elim)
    obtain ⟨rfl, ⟨az55, sy55, r55⟩, fa55⟩ := q55
    refine G.eqs [] rfl ?_
    cases hr
    exact G.vret rfl ⟨rfl, ⟨_, _, r55⟩, ((Fr.rf.tr fa42 (fun _ h => h)).tr fa55 (fun _ h => h))⟩ (tbd tv_X12_see rfl)
  replace hr := ite_f ck42_60 hr
  by_cases ck42_58 : k42 = 58
  · replace hr := ite_t ck42_58 hr
    subst ck42_58
    refine G.go tv_X12_see 1 7 [(0, .ref (gAd E (56))), (1, .int (a0)), (2, .int (a1))] [.ref (gAd E (56))] rfl ?_
    refine G.rg r42 hE 41 (.ref (gAd E (58))) (by decide) rfl (tbd tv_X12_see rfl) w_2106 ?_
    refine G.go tv_X12_see 1 11 [(0, .ref (gAd E (56))), (1, .int (a0)), (2, .int (a1))] [.ref (gAd E (56)), .ref (gAd E (58))] rfl ?_
    refine G.rg r42 hE 42 (.int (v42)) (by decide) rfl (tbd tv_X12_see rfl) w_2107 ?_
    refine G.go tv_X12_see 1 15 [(0, .ref (gAd E (56))), (1, .int (a0)), (2, .int (a1))] [.ref (gAd E (56)), .int (v42), .ref (gAd E (58))] rfl ?_
    refine G.rg r42 hE 43 (.ref (gAd E (78))) (by decide) rfl (tbd tv_X12_see rfl) w_2108 ?_
    refine G.go tv_X12_see 1 19 [(0, .ref (gAd E (56))), (1, .int (a0)), (2, .int (a1))] [.int ((0 : Int32)), .ref (gAd E (78)), .int (v42), .ref (gAd E (58))] rfl ?_
    obtain ⟨R58, hv58, hr⟩ := bnd_s hr
    refine G.callS [.ref (gAd E (58)), .int (v42), .ref (gAd E (78)), .int ((0 : Int32))] [] (k_X12_move_58_78 E _ hE R ⟨_, _, r42⟩ v42 ((0 : Int32)) R58 hv58) cw_X12_190 w_2307 (Nat.le_of_ble_eq_true rfl) rfl (Nat.le_of_ble_eq_true rfl) (tbd tv_X12_see rfl) (fun v58w f58 q58 => ?_) (fun _ _ h => h.elim)
    obtain ⟨rfl, ⟨az58, sy58, r58⟩, fa58⟩ := q58
    refine G.eqs [] rfl ?_
    cases hr
    exact G.vret rfl ⟨rfl, ⟨_, _, r58⟩, ((Fr.rf.tr fa42 (fun _ h => h)).tr fa58 (fun _ h => h))⟩ (tbd tv_X12_see rfl)
  replace hr := ite_f ck42_58 hr
  cases hr
def tb_X12_inodeBlock : List (Nat × Instr × Nat) := [(0, .bipush 45, 2), (2, .iload_n 0, 1), (3, .iconst 1, 1), (4, .isub, 1), (5, .iconst 4, 1), (6, .idiv, 1), (7, .iadd, 1), (8, .ireturn, 1)]
theorem tv_X12_inodeBlock : Tv cX12_inodeBlock tb_X12_inodeBlock := by
  unfold Tv
  decide +kernel
def e_inodeBlock (R : RfT) (a0 : Int32) : Option (Int32) := some (((45 : Int32)) + (((a0) - ((1 : Int32))) / ((4 : Int32))))
set_option maxRecDepth 100000 in
set_option maxHeartbeats 4000000 in
theorem k_X12_inodeBlock (E : gE) (f : Nat → va_E) (hE : 94 ≤ gN E) (R : RfT) (w : RW E f R) (a0 : Int32) (r : Int32) (hr : e_inodeBlock R a0 = some r) : Ct E 1 yX12_inodeBlock cX12_inodeBlock 1 (some .int) [.int (a0)] f (fun v g => v = some (.int r) ∧ RW E g R ∧ Fr RfK f g, fun _ _ => False) := by
  obtain ⟨az, sy, r0⟩ := w
  refine Ct.of (by decide) (Nat.le_of_ble_eq_true rfl) (fun sz => ?_)
  refine G.eql [(0, .int (a0))] rfl ?_
  unfold e_inodeBlock at hr
  refine G.go tv_X12_inodeBlock 5 6 [(0, .int (a0))] [.int ((4 : Int32)), .int ((a0) - ((1 : Int32))), .int ((45 : Int32))] rfl ?_
  refine G.idiv (by decide) (tbd tv_X12_inodeBlock rfl) ?_
  refine G.go tv_X12_inodeBlock 1 8 [(0, .int (a0))] [.int (((45 : Int32)) + (((a0) - ((1 : Int32))) / ((4 : Int32))))] rfl ?_
  cases hr
  exact G.iret rfl rfl ⟨rfl, ⟨_, _, r0⟩, Fr.rf⟩ (tbd tv_X12_inodeBlock rfl)
def tb_X12_field : List (Nat × Instr × Nat) := [(0, .aload_n 0, 1), (1, .iload_n 1, 1), (2, .invokestatic 292, 3), (5, .bipush 32, 2), (7, .iload_n 1, 1), (8, .iconst 1, 1), (9, .isub, 1), (10, .iconst 4, 1), (11, .irem, 1), (12, .imul, 1), (13, .iload_n 2, 1), (14, .iadd, 1), (15, .iload_n 3, 1), (16, .invokevirtual 295, 3), (19, .ireturn, 1)]
theorem tv_X12_field : Tv cX12_field tb_X12_field := by
  unfold Tv
  decide +kernel
theorem w_2375 : Cond.methodLink "LedgerFilesModel" 292 yX12_inodeBlock ∈ TB := tp_10 69 (by decide +kernel) rfl
theorem w_2377 : Cond.code yX12_inodeBlock prog_14_method_40_code 1 (some .int) ∈ TB := tp_10 71 rfl rfl
theorem cw_X12_292 : Cw RX12 292 yX12_inodeBlock cX12_inodeBlock 1 (some .int) 1 := ⟨w_2375, w_2377, w_161, by decide +kernel, by decide +kernel, by decide⟩
theorem w_2376 : Cond.static yX12_inodeBlock ∈ TB := tp_10 70 (by decide +kernel) rfl
theorem w_2378 : Cond.methodLink "LedgerFilesModel" 295 yX12_seenNumber ∈ TB := tp_10 72 (by decide +kernel) rfl
theorem w_2381 : Cond.code yX12_seenNumber prog_14_method_25_code 4 (some .int) ∈ TB := tp_10 75 rfl rfl
theorem cw_X12_295 : Cw RX12 295 yX12_seenNumber cX12_seenNumber 4 (some .int) 3 := ⟨w_2378, w_2381, w_161, by decide +kernel, by decide +kernel, by decide⟩
theorem w_2380 : Cond.instanceMethod yX12_seenNumber ∈ TB := tp_10 74 (by decide +kernel) rfl
theorem w_76 : Cond.selects "LedgerFilesModel" yX12_seenNumber yX12_seenNumber ∈ TB := tp_0 76 (by decide +kernel) rfl
def e_field (R : RfT) (a0 : Int32) (a1 : Int32) (a2 : Int32) : Option (Int32) := bnd (e_inodeBlock R a0) (fun v61 => bnd (e_seenNumber R v61 ((((32 : Int32)) * (((a0) - ((1 : Int32))) - ((a0) - ((1 : Int32))) / ((4 : Int32)) * ((4 : Int32)))) + (a1)) a2) (fun v62 => some v62))
set_option maxRecDepth 100000 in
set_option maxHeartbeats 4000000 in
theorem k_X12_field (E : gE) (f : Nat → va_E) (hE : 94 ≤ gN E) (R : RfT) (w : RW E f R) (a0 : Int32) (a1 : Int32) (a2 : Int32) (r : Int32) (hr : e_field R a0 a1 a2 = some r) : Ct E 3 yX12_field cX12_field 4 (some .int) [.ref (gAd E (56)), .int (a0), .int (a1), .int (a2)] f (fun v g => v = some (.int r) ∧ RW E g R ∧ Fr RfK f g, fun _ _ => False) := by
  obtain ⟨az, sy, r0⟩ := w
  refine Ct.of (by decide) (Nat.le_of_ble_eq_true rfl) (fun sz => ?_)
  refine G.eql [(0, .ref (gAd E (56))), (1, .int (a0)), (2, .int (a1)), (3, .int (a2))] rfl ?_
  unfold e_field at hr
  refine G.go tv_X12_field 2 2 [(0, .ref (gAd E (56))), (1, .int (a0)), (2, .int (a1)), (3, .int (a2))] [.int (a0), .ref (gAd E (56))] rfl ?_
  obtain ⟨v61, hv61, hr⟩ := bnd_s hr
  refine G.callS [.int (a0)] [.ref (gAd E (56))] (k_X12_inodeBlock E _ hE R ⟨_, _, r0⟩ a0 v61 hv61) cw_X12_292 w_2376 (Nat.le_of_ble_eq_true rfl) rfl (Nat.le_of_ble_eq_true rfl) (tbd tv_X12_field rfl) (fun v61w f61 q61 => ?_) (fun _ _ h => h.elim)
  obtain ⟨rfl, ⟨az61, sy61, r61⟩, fa61⟩ := q61
  refine G.eqs [.int (v61), .ref (gAd E (56))] rfl ?_
  refine G.go tv_X12_field 5 11 [(0, .ref (gAd E (56))), (1, .int (a0)), (2, .int (a1)), (3, .int (a2))] [.int ((4 : Int32)), .int ((a0) - ((1 : Int32))), .int ((32 : Int32)), .int (v61), .ref (gAd E (56))] rfl ?_
  refine G.irem (by decide) (tbd tv_X12_field rfl) ?_
  refine G.go tv_X12_field 4 16 [(0, .ref (gAd E (56))), (1, .int (a0)), (2, .int (a1)), (3, .int (a2))] [.int (a2), .int ((((32 : Int32)) * (((a0) - ((1 : Int32))) - ((a0) - ((1 : Int32))) / ((4 : Int32)) * ((4 : Int32)))) + (a1)), .int (v61), .ref (gAd E (56))] rfl ?_
  obtain ⟨v62, hv62, hr⟩ := bnd_s hr
  refine G.callV (56) [.int (v61), .int ((((32 : Int32)) * (((a0) - ((1 : Int32))) - ((a0) - ((1 : Int32))) / ((4 : Int32)) * ((4 : Int32)))) + (a1)), .int (a2)] [] (k_X12_seenNumber E _ hE R ⟨_, _, r61⟩ v61 ((((32 : Int32)) * (((a0) - ((1 : Int32))) - ((a0) - ((1 : Int32))) / ((4 : Int32)) * ((4 : Int32)))) + (a1)) a2 v62 hv62) cls_X12 (by omega) (r61.o) cw_X12_295 w_2380 w_76 (Nat.le_of_ble_eq_true rfl) rfl (Nat.le_of_ble_eq_true rfl) (tbd tv_X12_field rfl) (fun v62w f62 q62 => ?_) (fun _ _ h => h.elim)
  obtain ⟨rfl, ⟨az62, sy62, r62⟩, fa62⟩ := q62
  refine G.eqs [.int (v62)] rfl ?_
  cases hr
  exact G.iret rfl rfl ⟨rfl, ⟨_, _, r62⟩, ((Fr.rf.tr fa61 (fun _ h => h)).tr fa62 (fun _ h => h))⟩ (tbd tv_X12_field rfl)
def tb_X12_kind : List (Nat × Instr × Nat) := [(0, .iload_n 1, 1), (1, .iconst 1, 1), (2, .if_icmp .lt 9, 3), (5, .iload_n 1, 1), (6, .bipush 64, 2), (8, .if_icmp .le 7, 3), (11, .iconst 0, 1), (12, .goto 10, 3), (15, .aload_n 0, 1), (16, .iload_n 1, 1), (17, .iconst 0, 1), (18, .iconst 1, 1), (19, .invokevirtual 303, 3), (22, .ireturn, 1)]
theorem tv_X12_kind : Tv cX12_kind tb_X12_kind := by
  unfold Tv
  decide +kernel
theorem w_2371 : Cond.methodLink "LedgerFilesModel" 303 yX12_field ∈ TB := tp_10 65 (by decide +kernel) rfl
theorem w_2374 : Cond.code yX12_field prog_14_method_41_code 4 (some .int) ∈ TB := tp_10 68 rfl rfl
theorem cw_X12_303 : Cw RX12 303 yX12_field cX12_field 4 (some .int) 3 := ⟨w_2371, w_2374, w_161, by decide +kernel, by decide +kernel, by decide⟩
theorem w_2373 : Cond.instanceMethod yX12_field ∈ TB := tp_10 67 (by decide +kernel) rfl
theorem w_75 : Cond.selects "LedgerFilesModel" yX12_field yX12_field ∈ TB := tp_0 75 (by decide +kernel) rfl
def e_kind (R : RfT) (a0 : Int32) : Option (Int32) := if a0 < ((1 : Int32)) then some ((0 : Int32)) else if a0 ≤ ((64 : Int32)) then bnd (e_field R a0 ((0 : Int32)) ((1 : Int32))) (fun v63 => some v63) else some ((0 : Int32))
set_option maxRecDepth 100000 in
set_option maxHeartbeats 4000000 in
theorem k_X12_kind (E : gE) (f : Nat → va_E) (hE : 94 ≤ gN E) (R : RfT) (w : RW E f R) (a0 : Int32) (r : Int32) (hr : e_kind R a0 = some r) : Ct E 4 yX12_kind cX12_kind 2 (some .int) [.ref (gAd E (56)), .int (a0)] f (fun v g => v = some (.int r) ∧ RW E g R ∧ Fr RfK f g, fun _ _ => False) := by
  obtain ⟨az, sy, r0⟩ := w
  refine Ct.of (by decide) (Nat.le_of_ble_eq_true rfl) (fun sz => ?_)
  refine G.eql [(0, .ref (gAd E (56))), (1, .int (a0))] rfl ?_
  unfold e_kind at hr
  refine G.go tv_X12_kind 2 2 [(0, .ref (gAd E (56))), (1, .int (a0))] [.int ((1 : Int32)), .int (a0)] rfl ?_
  refine G.cmp_lt 11 (tbd tv_X12_kind rfl) (by decide) (fun c2 => ?_) (fun c2 => ?_)
  · replace hr := ite_t c2 hr
    refine G.go tv_X12_kind 2 22 [(0, .ref (gAd E (56))), (1, .int (a0))] [.int ((0 : Int32))] rfl ?_
    cases hr
    exact G.iret rfl rfl ⟨rfl, ⟨_, _, r0⟩, Fr.rf⟩ (tbd tv_X12_kind rfl)
  · replace hr := ite_f c2 hr
    refine G.go tv_X12_kind 2 8 [(0, .ref (gAd E (56))), (1, .int (a0))] [.int ((64 : Int32)), .int (a0)] rfl ?_
    refine G.cmp_le 15 (tbd tv_X12_kind rfl) (by decide) (fun c8 => ?_) (fun c8 => ?_)
    · replace hr := ite_t c8 hr
      refine G.go tv_X12_kind 4 19 [(0, .ref (gAd E (56))), (1, .int (a0))] [.int ((1 : Int32)), .int ((0 : Int32)), .int (a0), .ref (gAd E (56))] rfl ?_
      obtain ⟨v63, hv63, hr⟩ := bnd_s hr
      refine G.callV (56) [.int (a0), .int ((0 : Int32)), .int ((1 : Int32))] [] (k_X12_field E _ hE R ⟨_, _, r0⟩ a0 ((0 : Int32)) ((1 : Int32)) v63 hv63) cls_X12 (by omega) (r0.o) cw_X12_303 w_2373 w_75 (Nat.le_of_ble_eq_true rfl) rfl (Nat.le_of_ble_eq_true rfl) (tbd tv_X12_kind rfl) (fun v63w f63 q63 => ?_) (fun _ _ h => h.elim)
      obtain ⟨rfl, ⟨az63, sy63, r63⟩, fa63⟩ := q63
      refine G.eqs [.int (v63)] rfl ?_
      cases hr
      exact G.iret rfl rfl ⟨rfl, ⟨_, _, r63⟩, (Fr.rf.tr fa63 (fun _ h => h))⟩ (tbd tv_X12_kind rfl)
    · replace hr := ite_f c8 hr
      refine G.go tv_X12_kind 2 22 [(0, .ref (gAd E (56))), (1, .int (a0))] [.int ((0 : Int32))] rfl ?_
      cases hr
      exact G.iret rfl rfl ⟨rfl, ⟨_, _, r0⟩, Fr.rf⟩ (tbd tv_X12_kind rfl)
def tb_X12_size : List (Nat × Instr × Nat) := [(0, .aload_n 0, 1), (1, .iload_n 1, 1), (2, .iconst 4, 1), (3, .iconst 4, 1), (4, .invokevirtual 303, 3), (7, .ireturn, 1)]
theorem tv_X12_size : Tv cX12_size tb_X12_size := by
  unfold Tv
  decide +kernel
def e_size (R : RfT) (a0 : Int32) : Option (Int32) := bnd (e_field R a0 ((4 : Int32)) ((4 : Int32))) (fun v64 => some v64)
set_option maxRecDepth 100000 in
set_option maxHeartbeats 4000000 in
theorem k_X12_size (E : gE) (f : Nat → va_E) (hE : 94 ≤ gN E) (R : RfT) (w : RW E f R) (a0 : Int32) (r : Int32) (hr : e_size R a0 = some r) : Ct E 4 yX12_size cX12_size 2 (some .int) [.ref (gAd E (56)), .int (a0)] f (fun v g => v = some (.int r) ∧ RW E g R ∧ Fr RfK f g, fun _ _ => False) := by
  obtain ⟨az, sy, r0⟩ := w
  refine Ct.of (by decide) (Nat.le_of_ble_eq_true rfl) (fun sz => ?_)
  refine G.eql [(0, .ref (gAd E (56))), (1, .int (a0))] rfl ?_
  unfold e_size at hr
  refine G.go tv_X12_size 4 4 [(0, .ref (gAd E (56))), (1, .int (a0))] [.int ((4 : Int32)), .int ((4 : Int32)), .int (a0), .ref (gAd E (56))] rfl ?_
  obtain ⟨v64, hv64, hr⟩ := bnd_s hr
  refine G.callV (56) [.int (a0), .int ((4 : Int32)), .int ((4 : Int32))] [] (k_X12_field E _ hE R ⟨_, _, r0⟩ a0 ((4 : Int32)) ((4 : Int32)) v64 hv64) cls_X12 (by omega) (r0.o) cw_X12_303 w_2373 w_75 (Nat.le_of_ble_eq_true rfl) rfl (Nat.le_of_ble_eq_true rfl) (tbd tv_X12_size rfl) (fun v64w f64 q64 => ?_) (fun _ _ h => h.elim)
  obtain ⟨rfl, ⟨az64, sy64, r64⟩, fa64⟩ := q64
  refine G.eqs [.int (v64)] rfl ?_
  cases hr
  exact G.iret rfl rfl ⟨rfl, ⟨_, _, r64⟩, (Fr.rf.tr fa64 (fun _ h => h))⟩ (tbd tv_X12_size rfl)
def tb_X12_tableOf : List (Nat × Instr × Nat) := [(0, .iload_n 2, 1), (1, .bipush 72, 2), (3, .if_icmp .ge 12, 3), (6, .aload_n 0, 1), (7, .iload_n 1, 1), (8, .bipush 28, 2), (10, .iconst 2, 1), (11, .invokevirtual 303, 3), (14, .ireturn, 1), (15, .aload_n 0, 1), (16, .iload_n 1, 1), (17, .bipush 30, 2), (19, .iconst 2, 1), (20, .invokevirtual 303, 3), (23, .istore_n 3, 1), (24, .iload_n 3, 1), (25, .ifCond .ne 7, 3), (28, .iconst 0, 1), (29, .goto 18, 3), (32, .aload_n 0, 1), (33, .iload_n 3, 1), (34, .iconst 2, 1), (35, .iload_n 2, 1), (36, .bipush 72, 2), (38, .isub, 1), (39, .bipush 64, 2), (41, .idiv, 1), (42, .imul, 1), (43, .iconst 2, 1), (44, .invokevirtual 295, 3), (47, .ireturn, 1)]
theorem tv_X12_tableOf : Tv cX12_tableOf tb_X12_tableOf := by
  unfold Tv
  decide +kernel
def e_tableOf (R : RfT) (a0 : Int32) (a1 : Int32) : Option (Int32) := if ((72 : Int32)) ≤ a1 then bnd (e_field R a0 ((30 : Int32)) ((2 : Int32))) (fun v65 => if v65 = 0 then some ((0 : Int32)) else bnd (e_seenNumber R v65 (((2 : Int32)) * (((a1) - ((72 : Int32))) / ((64 : Int32)))) ((2 : Int32))) (fun v66 => some v66)) else bnd (e_field R a0 ((28 : Int32)) ((2 : Int32))) (fun v67 => some v67)
set_option maxRecDepth 100000 in
set_option maxHeartbeats 4000000 in
theorem k_X12_tableOf (E : gE) (f : Nat → va_E) (hE : 94 ≤ gN E) (R : RfT) (w : RW E f R) (a0 : Int32) (a1 : Int32) (r : Int32) (hr : e_tableOf R a0 a1 = some r) : Ct E 4 yX12_tableOf cX12_tableOf 4 (some .int) [.ref (gAd E (56)), .int (a0), .int (a1)] f (fun v g => v = some (.int r) ∧ RW E g R ∧ Fr RfK f g, fun _ _ => False) := by
  obtain ⟨az, sy, r0⟩ := w
  refine Ct.of (by decide) (Nat.le_of_ble_eq_true rfl) (fun sz => ?_)
  refine G.eql [(0, .ref (gAd E (56))), (1, .int (a0)), (2, .int (a1))] rfl ?_
  unfold e_tableOf at hr
  refine G.go tv_X12_tableOf 2 3 [(0, .ref (gAd E (56))), (1, .int (a0)), (2, .int (a1))] [.int ((72 : Int32)), .int (a1)] rfl ?_
  refine G.cmp_ge 15 (tbd tv_X12_tableOf rfl) (by decide) (fun c3 => ?_) (fun c3 => ?_)
  · replace hr := ite_t c3 hr
    refine G.go tv_X12_tableOf 4 20 [(0, .ref (gAd E (56))), (1, .int (a0)), (2, .int (a1))] [.int ((2 : Int32)), .int ((30 : Int32)), .int (a0), .ref (gAd E (56))] rfl ?_
    obtain ⟨v65, hv65, hr⟩ := bnd_s hr
    refine G.callV (56) [.int (a0), .int ((30 : Int32)), .int ((2 : Int32))] [] (k_X12_field E _ hE R ⟨_, _, r0⟩ a0 ((30 : Int32)) ((2 : Int32)) v65 hv65) cls_X12 (by omega) (r0.o) cw_X12_303 w_2373 w_75 (Nat.le_of_ble_eq_true rfl) rfl (Nat.le_of_ble_eq_true rfl) (tbd tv_X12_tableOf rfl) (fun v65w f65 q65 => ?_) (fun _ _ h => h.elim)
    obtain ⟨rfl, ⟨az65, sy65, r65⟩, fa65⟩ := q65
    refine G.eqs [.int (v65)] rfl ?_
    refine G.go tv_X12_tableOf 2 25 [(0, .ref (gAd E (56))), (1, .int (a0)), (2, .int (a1)), (3, .int (v65))] [.int (v65)] rfl ?_
    refine G.if_ne 32 (tbd tv_X12_tableOf rfl) (by decide) (fun c25 => ?_) (fun c25 => ?_)
    · replace hr := ite_f c25 hr
      refine G.go tv_X12_tableOf 7 41 [(0, .ref (gAd E (56))), (1, .int (a0)), (2, .int (a1)), (3, .int (v65))] [.int ((64 : Int32)), .int ((a1) - ((72 : Int32))), .int ((2 : Int32)), .int (v65), .ref (gAd E (56))] rfl ?_
      refine G.idiv (by decide) (tbd tv_X12_tableOf rfl) ?_
      refine G.go tv_X12_tableOf 2 44 [(0, .ref (gAd E (56))), (1, .int (a0)), (2, .int (a1)), (3, .int (v65))] [.int ((2 : Int32)), .int (((2 : Int32)) * (((a1) - ((72 : Int32))) / ((64 : Int32)))), .int (v65), .ref (gAd E (56))] rfl ?_
      obtain ⟨v66, hv66, hr⟩ := bnd_s hr
      refine G.callV (56) [.int (v65), .int (((2 : Int32)) * (((a1) - ((72 : Int32))) / ((64 : Int32)))), .int ((2 : Int32))] [] (k_X12_seenNumber E _ hE R ⟨_, _, r65⟩ v65 (((2 : Int32)) * (((a1) - ((72 : Int32))) / ((64 : Int32)))) ((2 : Int32)) v66 hv66) cls_X12 (by omega) (r65.o) cw_X12_295 w_2380 w_76 (Nat.le_of_ble_eq_true rfl) rfl (Nat.le_of_ble_eq_true rfl) (tbd tv_X12_tableOf rfl) (fun v66w f66 q66 => ?_) (fun _ _ h => h.elim)
      obtain ⟨rfl, ⟨az66, sy66, r66⟩, fa66⟩ := q66
      refine G.eqs [.int (v66)] rfl ?_
      cases hr
      exact G.iret rfl rfl ⟨rfl, ⟨_, _, r66⟩, ((Fr.rf.tr fa65 (fun _ h => h)).tr fa66 (fun _ h => h))⟩ (tbd tv_X12_tableOf rfl)
    · replace hr := ite_t c25 hr
      refine G.go tv_X12_tableOf 2 47 [(0, .ref (gAd E (56))), (1, .int (a0)), (2, .int (a1)), (3, .int (v65))] [.int ((0 : Int32))] rfl ?_
      cases hr
      exact G.iret rfl rfl ⟨rfl, ⟨_, _, r65⟩, (Fr.rf.tr fa65 (fun _ h => h))⟩ (tbd tv_X12_tableOf rfl)
  · replace hr := ite_f c3 hr
    refine G.go tv_X12_tableOf 4 11 [(0, .ref (gAd E (56))), (1, .int (a0)), (2, .int (a1))] [.int ((2 : Int32)), .int ((28 : Int32)), .int (a0), .ref (gAd E (56))] rfl ?_
    obtain ⟨v67, hv67, hr⟩ := bnd_s hr
    refine G.callV (56) [.int (a0), .int ((28 : Int32)), .int ((2 : Int32))] [] (k_X12_field E _ hE R ⟨_, _, r0⟩ a0 ((28 : Int32)) ((2 : Int32)) v67 hv67) cls_X12 (by omega) (r0.o) cw_X12_303 w_2373 w_75 (Nat.le_of_ble_eq_true rfl) rfl (Nat.le_of_ble_eq_true rfl) (tbd tv_X12_tableOf rfl) (fun v67w f67 q67 => ?_) (fun _ _ h => h.elim)
    obtain ⟨rfl, ⟨az67, sy67, r67⟩, fa67⟩ := q67
    refine G.eqs [.int (v67)] rfl ?_
    cases hr
    exact G.iret rfl rfl ⟨rfl, ⟨_, _, r67⟩, (Fr.rf.tr fa67 (fun _ h => h))⟩ (tbd tv_X12_tableOf rfl)
def tb_X12_blockOf : List (Nat × Instr × Nat) := [(0, .iload_n 2, 1), (1, .bipush 8, 2), (3, .if_icmp .ge 16, 3), (6, .aload_n 0, 1), (7, .iload_n 1, 1), (8, .bipush 12, 2), (10, .iconst 2, 1), (11, .iload_n 2, 1), (12, .imul, 1), (13, .iadd, 1), (14, .iconst 2, 1), (15, .invokevirtual 303, 3), (18, .ireturn, 1), (19, .aload_n 0, 1), (20, .iload_n 1, 1), (21, .iload_n 2, 1), (22, .invokevirtual 306, 3), (25, .istore_n 3, 1), (26, .iload_n 3, 1), (27, .ifCond .ne 7, 3), (30, .iconst 0, 1), (31, .goto 31, 3), (34, .aload_n 0, 1), (35, .iload_n 3, 1), (36, .iconst 2, 1), (37, .iload_n 2, 1), (38, .bipush 72, 2), (40, .if_icmp .ge 10, 3), (43, .iload_n 2, 1), (44, .bipush 8, 2), (46, .isub, 1), (47, .goto 10, 3), (50, .iload_n 2, 1), (51, .bipush 72, 2), (53, .isub, 1), (54, .bipush 64, 2), (56, .irem, 1), (57, .imul, 1), (58, .iconst 2, 1), (59, .invokevirtual 295, 3), (62, .ireturn, 1)]
theorem tv_X12_blockOf : Tv cX12_blockOf tb_X12_blockOf := by
  unfold Tv
  decide +kernel
theorem w_2509 : Cond.methodLink "LedgerFilesModel" 306 yX12_tableOf ∈ TB := tp_10 203 (by decide +kernel) rfl
theorem w_2512 : Cond.code yX12_tableOf prog_14_method_45_code 4 (some .int) ∈ TB := tp_10 206 rfl rfl
theorem cw_X12_306 : Cw RX12 306 yX12_tableOf cX12_tableOf 4 (some .int) 2 := ⟨w_2509, w_2512, w_161, by decide +kernel, by decide +kernel, by decide⟩
theorem w_2511 : Cond.instanceMethod yX12_tableOf ∈ TB := tp_10 205 (by decide +kernel) rfl
theorem w_106 : Cond.selects "LedgerFilesModel" yX12_tableOf yX12_tableOf ∈ TB := tp_0 106 (by decide +kernel) rfl
def e_blockOf (R : RfT) (a0 : Int32) (a1 : Int32) : Option (Int32) := if ((8 : Int32)) ≤ a1 then bnd (e_tableOf R a0 a1) (fun v68 => if v68 = 0 then some ((0 : Int32)) else if ((72 : Int32)) ≤ a1 then bnd (e_seenNumber R v68 (((2 : Int32)) * (((a1) - ((72 : Int32))) - ((a1) - ((72 : Int32))) / ((64 : Int32)) * ((64 : Int32)))) ((2 : Int32))) (fun v69 => some v69) else bnd (e_seenNumber R v68 (((2 : Int32)) * ((a1) - ((8 : Int32)))) ((2 : Int32))) (fun v70 => some v70)) else bnd (e_field R a0 (((12 : Int32)) + (((2 : Int32)) * (a1))) ((2 : Int32))) (fun v71 => some v71)
set_option maxRecDepth 100000 in
set_option maxHeartbeats 4000000 in
theorem k_X12_blockOf (E : gE) (f : Nat → va_E) (hE : 94 ≤ gN E) (R : RfT) (w : RW E f R) (a0 : Int32) (a1 : Int32) (r : Int32) (hr : e_blockOf R a0 a1 = some r) : Ct E 5 yX12_blockOf cX12_blockOf 4 (some .int) [.ref (gAd E (56)), .int (a0), .int (a1)] f (fun v g => v = some (.int r) ∧ RW E g R ∧ Fr RfK f g, fun _ _ => False) := by
  obtain ⟨az, sy, r0⟩ := w
  refine Ct.of (by decide) (Nat.le_of_ble_eq_true rfl) (fun sz => ?_)
  refine G.eql [(0, .ref (gAd E (56))), (1, .int (a0)), (2, .int (a1))] rfl ?_
  unfold e_blockOf at hr
  refine G.go tv_X12_blockOf 2 3 [(0, .ref (gAd E (56))), (1, .int (a0)), (2, .int (a1))] [.int ((8 : Int32)), .int (a1)] rfl ?_
  refine G.cmp_ge 19 (tbd tv_X12_blockOf rfl) (by decide) (fun c3 => ?_) (fun c3 => ?_)
  · replace hr := ite_t c3 hr
    refine G.go tv_X12_blockOf 3 22 [(0, .ref (gAd E (56))), (1, .int (a0)), (2, .int (a1))] [.int (a1), .int (a0), .ref (gAd E (56))] rfl ?_
    obtain ⟨v68, hv68, hr⟩ := bnd_s hr
    refine G.callV (56) [.int (a0), .int (a1)] [] (k_X12_tableOf E _ hE R ⟨_, _, r0⟩ a0 a1 v68 hv68) cls_X12 (by omega) (r0.o) cw_X12_306 w_2511 w_106 (Nat.le_of_ble_eq_true rfl) rfl (Nat.le_of_ble_eq_true rfl) (tbd tv_X12_blockOf rfl) (fun v68w f68 q68 => ?_) (fun _ _ h => h.elim)
    obtain ⟨rfl, ⟨az68, sy68, r68⟩, fa68⟩ := q68
    refine G.eqs [.int (v68)] rfl ?_
    refine G.go tv_X12_blockOf 2 27 [(0, .ref (gAd E (56))), (1, .int (a0)), (2, .int (a1)), (3, .int (v68))] [.int (v68)] rfl ?_
    refine G.if_ne 34 (tbd tv_X12_blockOf rfl) (by decide) (fun c27 => ?_) (fun c27 => ?_)
    · replace hr := ite_f c27 hr
      refine G.go tv_X12_blockOf 5 40 [(0, .ref (gAd E (56))), (1, .int (a0)), (2, .int (a1)), (3, .int (v68))] [.int ((72 : Int32)), .int (a1), .int ((2 : Int32)), .int (v68), .ref (gAd E (56))] rfl ?_
      refine G.cmp_ge 50 (tbd tv_X12_blockOf rfl) (by decide) (fun c40 => ?_) (fun c40 => ?_)
      · replace hr := ite_t c40 hr
        refine G.go tv_X12_blockOf 4 56 [(0, .ref (gAd E (56))), (1, .int (a0)), (2, .int (a1)), (3, .int (v68))] [.int ((64 : Int32)), .int ((a1) - ((72 : Int32))), .int ((2 : Int32)), .int (v68), .ref (gAd E (56))] rfl ?_
        refine G.irem (by decide) (tbd tv_X12_blockOf rfl) ?_
        refine G.go tv_X12_blockOf 2 59 [(0, .ref (gAd E (56))), (1, .int (a0)), (2, .int (a1)), (3, .int (v68))] [.int ((2 : Int32)), .int (((2 : Int32)) * (((a1) - ((72 : Int32))) - ((a1) - ((72 : Int32))) / ((64 : Int32)) * ((64 : Int32)))), .int (v68), .ref (gAd E (56))] rfl ?_
        obtain ⟨v69, hv69, hr⟩ := bnd_s hr
        refine G.callV (56) [.int (v68), .int (((2 : Int32)) * (((a1) - ((72 : Int32))) - ((a1) - ((72 : Int32))) / ((64 : Int32)) * ((64 : Int32)))), .int ((2 : Int32))] [] (k_X12_seenNumber E _ hE R ⟨_, _, r68⟩ v68 (((2 : Int32)) * (((a1) - ((72 : Int32))) - ((a1) - ((72 : Int32))) / ((64 : Int32)) * ((64 : Int32)))) ((2 : Int32)) v69 hv69) cls_X12 (by omega) (r68.o) cw_X12_295 w_2380 w_76 (Nat.le_of_ble_eq_true rfl) rfl (Nat.le_of_ble_eq_true rfl) (tbd tv_X12_blockOf rfl) (fun v69w f69 q69 => ?_) (fun _ _ h => h.elim)
        obtain ⟨rfl, ⟨az69, sy69, r69⟩, fa69⟩ := q69
        refine G.eqs [.int (v69)] rfl ?_
        cases hr
        exact G.iret rfl rfl ⟨rfl, ⟨_, _, r69⟩, ((Fr.rf.tr fa68 (fun _ h => h)).tr fa69 (fun _ h => h))⟩ (tbd tv_X12_blockOf rfl)
      · replace hr := ite_f c40 hr
        refine G.go tv_X12_blockOf 6 59 [(0, .ref (gAd E (56))), (1, .int (a0)), (2, .int (a1)), (3, .int (v68))] [.int ((2 : Int32)), .int (((2 : Int32)) * ((a1) - ((8 : Int32)))), .int (v68), .ref (gAd E (56))] rfl ?_
        obtain ⟨v70, hv70, hr⟩ := bnd_s hr
        refine G.callV (56) [.int (v68), .int (((2 : Int32)) * ((a1) - ((8 : Int32)))), .int ((2 : Int32))] [] (k_X12_seenNumber E _ hE R ⟨_, _, r68⟩ v68 (((2 : Int32)) * ((a1) - ((8 : Int32)))) ((2 : Int32)) v70 hv70) cls_X12 (by omega) (r68.o) cw_X12_295 w_2380 w_76 (Nat.le_of_ble_eq_true rfl) rfl (Nat.le_of_ble_eq_true rfl) (tbd tv_X12_blockOf rfl) (fun v70w f70 q70 => ?_) (fun _ _ h => h.elim)
        obtain ⟨rfl, ⟨az70, sy70, r70⟩, fa70⟩ := q70
        refine G.eqs [.int (v70)] rfl ?_
        cases hr
        exact G.iret rfl rfl ⟨rfl, ⟨_, _, r70⟩, ((Fr.rf.tr fa68 (fun _ h => h)).tr fa70 (fun _ h => h))⟩ (tbd tv_X12_blockOf rfl)
    · replace hr := ite_t c27 hr
      refine G.go tv_X12_blockOf 2 62 [(0, .ref (gAd E (56))), (1, .int (a0)), (2, .int (a1)), (3, .int (v68))] [.int ((0 : Int32))] rfl ?_
      cases hr
      exact G.iret rfl rfl ⟨rfl, ⟨_, _, r68⟩, (Fr.rf.tr fa68 (fun _ h => h))⟩ (tbd tv_X12_blockOf rfl)
  · replace hr := ite_f c3 hr
    refine G.go tv_X12_blockOf 8 15 [(0, .ref (gAd E (56))), (1, .int (a0)), (2, .int (a1))] [.int ((2 : Int32)), .int (((12 : Int32)) + (((2 : Int32)) * (a1))), .int (a0), .ref (gAd E (56))] rfl ?_
    obtain ⟨v71, hv71, hr⟩ := bnd_s hr
    refine G.callV (56) [.int (a0), .int (((12 : Int32)) + (((2 : Int32)) * (a1))), .int ((2 : Int32))] [] (k_X12_field E _ hE R ⟨_, _, r0⟩ a0 (((12 : Int32)) + (((2 : Int32)) * (a1))) ((2 : Int32)) v71 hv71) cls_X12 (by omega) (r0.o) cw_X12_303 w_2373 w_75 (Nat.le_of_ble_eq_true rfl) rfl (Nat.le_of_ble_eq_true rfl) (tbd tv_X12_blockOf rfl) (fun v71w f71 q71 => ?_) (fun _ _ h => h.elim)
    obtain ⟨rfl, ⟨az71, sy71, r71⟩, fa71⟩ := q71
    refine G.eqs [.int (v71)] rfl ?_
    cases hr
    exact G.iret rfl rfl ⟨rfl, ⟨_, _, r71⟩, (Fr.rf.tr fa71 (fun _ h => h))⟩ (tbd tv_X12_blockOf rfl)
def tb_X12_slotNumber : List (Nat × Instr × Nat) := [(0, .aload_n 0, 1), (1, .aload_n 0, 1), (2, .iload_n 1, 1), (3, .iload_n 2, 1), (4, .bipush 8, 2), (6, .idiv, 1), (7, .invokevirtual 323, 3), (10, .bipush 16, 2), (12, .iload_n 2, 1), (13, .bipush 8, 2), (15, .irem, 1), (16, .imul, 1), (17, .iload_n 3, 1), (18, .iadd, 1), (19, .iload 4, 2), (21, .invokevirtual 295, 3), (24, .ireturn, 1)]
theorem tv_X12_slotNumber : Tv cX12_slotNumber tb_X12_slotNumber := by
  unfold Tv
  decide +kernel
theorem w_2505 : Cond.methodLink "LedgerFilesModel" 323 yX12_blockOf ∈ TB := tp_10 199 (by decide +kernel) rfl
theorem w_2508 : Cond.code yX12_blockOf prog_14_method_46_code 4 (some .int) ∈ TB := tp_10 202 rfl rfl
theorem cw_X12_323 : Cw RX12 323 yX12_blockOf cX12_blockOf 4 (some .int) 2 := ⟨w_2505, w_2508, w_161, by decide +kernel, by decide +kernel, by decide⟩
theorem w_2507 : Cond.instanceMethod yX12_blockOf ∈ TB := tp_10 201 (by decide +kernel) rfl
theorem w_105 : Cond.selects "LedgerFilesModel" yX12_blockOf yX12_blockOf ∈ TB := tp_0 105 (by decide +kernel) rfl
def e_slotNumber (R : RfT) (a0 : Int32) (a1 : Int32) (a2 : Int32) (a3 : Int32) : Option (Int32) := bnd (e_blockOf R a0 ((a1) / ((8 : Int32)))) (fun v72 => bnd (e_seenNumber R v72 ((((16 : Int32)) * ((a1) - (a1) / ((8 : Int32)) * ((8 : Int32)))) + (a2)) a3) (fun v73 => some v73))
set_option maxRecDepth 100000 in
set_option maxHeartbeats 4000000 in
theorem k_X12_slotNumber (E : gE) (f : Nat → va_E) (hE : 94 ≤ gN E) (R : RfT) (w : RW E f R) (a0 : Int32) (a1 : Int32) (a2 : Int32) (a3 : Int32) (r : Int32) (hr : e_slotNumber R a0 a1 a2 a3 = some r) : Ct E 6 yX12_slotNumber cX12_slotNumber 5 (some .int) [.ref (gAd E (56)), .int (a0), .int (a1), .int (a2), .int (a3)] f (fun v g => v = some (.int r) ∧ RW E g R ∧ Fr RfK f g, fun _ _ => False) := by
  obtain ⟨az, sy, r0⟩ := w
  refine Ct.of (by decide) (Nat.le_of_ble_eq_true rfl) (fun sz => ?_)
  refine G.eql [(0, .ref (gAd E (56))), (1, .int (a0)), (2, .int (a1)), (3, .int (a2)), (4, .int (a3))] rfl ?_
  unfold e_slotNumber at hr
  refine G.go tv_X12_slotNumber 5 6 [(0, .ref (gAd E (56))), (1, .int (a0)), (2, .int (a1)), (3, .int (a2)), (4, .int (a3))] [.int ((8 : Int32)), .int (a1), .int (a0), .ref (gAd E (56)), .ref (gAd E (56))] rfl ?_
  refine G.idiv (by decide) (tbd tv_X12_slotNumber rfl) ?_
  obtain ⟨v72, hv72, hr⟩ := bnd_s hr
  refine G.callV (56) [.int (a0), .int ((a1) / ((8 : Int32)))] [.ref (gAd E (56))] (k_X12_blockOf E _ hE R ⟨_, _, r0⟩ a0 ((a1) / ((8 : Int32))) v72 hv72) cls_X12 (by omega) (r0.o) cw_X12_323 w_2507 w_105 (Nat.le_of_ble_eq_true rfl) rfl (Nat.le_of_ble_eq_true rfl) (tbd tv_X12_slotNumber rfl) (fun v72w f72 q72 => ?_) (fun _ _ h => h.elim)
  obtain ⟨rfl, ⟨az72, sy72, r72⟩, fa72⟩ := q72
  refine G.eqs [.int (v72), .ref (gAd E (56))] rfl ?_
  refine G.go tv_X12_slotNumber 3 15 [(0, .ref (gAd E (56))), (1, .int (a0)), (2, .int (a1)), (3, .int (a2)), (4, .int (a3))] [.int ((8 : Int32)), .int (a1), .int ((16 : Int32)), .int (v72), .ref (gAd E (56))] rfl ?_
  refine G.irem (by decide) (tbd tv_X12_slotNumber rfl) ?_
  refine G.go tv_X12_slotNumber 4 21 [(0, .ref (gAd E (56))), (1, .int (a0)), (2, .int (a1)), (3, .int (a2)), (4, .int (a3))] [.int (a3), .int ((((16 : Int32)) * ((a1) - (a1) / ((8 : Int32)) * ((8 : Int32)))) + (a2)), .int (v72), .ref (gAd E (56))] rfl ?_
  obtain ⟨v73, hv73, hr⟩ := bnd_s hr
  refine G.callV (56) [.int (v72), .int ((((16 : Int32)) * ((a1) - (a1) / ((8 : Int32)) * ((8 : Int32)))) + (a2)), .int (a3)] [] (k_X12_seenNumber E _ hE R ⟨_, _, r72⟩ v72 ((((16 : Int32)) * ((a1) - (a1) / ((8 : Int32)) * ((8 : Int32)))) + (a2)) a3 v73 hv73) cls_X12 (by omega) (r72.o) cw_X12_295 w_2380 w_76 (Nat.le_of_ble_eq_true rfl) rfl (Nat.le_of_ble_eq_true rfl) (tbd tv_X12_slotNumber rfl) (fun v73w f73 q73 => ?_) (fun _ _ h => h.elim)
  obtain ⟨rfl, ⟨az73, sy73, r73⟩, fa73⟩ := q73
  refine G.eqs [.int (v73)] rfl ?_
  cases hr
  exact G.iret rfl rfl ⟨rfl, ⟨_, _, r73⟩, ((Fr.rf.tr fa72 (fun _ h => h)).tr fa73 (fun _ h => h))⟩ (tbd tv_X12_slotNumber rfl)
def tb_X12_freeSlot : List (Nat × Instr × Nat) := [(0, .aload_n 0, 1), (1, .iload_n 1, 1), (2, .invokevirtual 344, 3), (5, .bipush 16, 2), (7, .idiv, 1), (8, .istore_n 2, 1), (9, .iconst 0, 1), (10, .istore_n 3, 1), (11, .iload_n 3, 1), (12, .iload_n 2, 1), (13, .if_icmp .ge 22, 3), (16, .aload_n 0, 1), (17, .iload_n 1, 1), (18, .iload_n 3, 1), (19, .iconst 0, 1), (20, .iconst 2, 1), (21, .invokevirtual 347, 3), (24, .ifCond .ne 5, 3), (27, .iload_n 3, 1), (28, .ireturn, 1), (29, .iinc 3 1, 3), (32, .goto (-21), 3), (35, .iconst (-1), 1), (36, .ireturn, 1)]
theorem tv_X12_freeSlot : Tv cX12_freeSlot tb_X12_freeSlot := by
  unfold Tv
  decide +kernel
theorem w_2501 : Cond.methodLink "LedgerFilesModel" 344 yX12_size ∈ TB := tp_10 195 (by decide +kernel) rfl
theorem w_2504 : Cond.code yX12_size prog_14_method_44_code 2 (some .int) ∈ TB := tp_10 198 rfl rfl
theorem cw_X12_344 : Cw RX12 344 yX12_size cX12_size 2 (some .int) 1 := ⟨w_2501, w_2504, w_161, by decide +kernel, by decide +kernel, by decide⟩
theorem w_2503 : Cond.instanceMethod yX12_size ∈ TB := tp_10 197 (by decide +kernel) rfl
theorem w_104 : Cond.selects "LedgerFilesModel" yX12_size yX12_size ∈ TB := tp_0 104 (by decide +kernel) rfl
theorem w_2513 : Cond.methodLink "LedgerFilesModel" 347 yX12_slotNumber ∈ TB := tp_10 207 (by decide +kernel) rfl
theorem w_2516 : Cond.code yX12_slotNumber prog_14_method_59_code 5 (some .int) ∈ TB := tp_10 210 rfl rfl
theorem cw_X12_347 : Cw RX12 347 yX12_slotNumber cX12_slotNumber 5 (some .int) 4 := ⟨w_2513, w_2516, w_161, by decide +kernel, by decide +kernel, by decide⟩
theorem w_2515 : Cond.instanceMethod yX12_slotNumber ∈ TB := tp_10 209 (by decide +kernel) rfl
theorem w_107 : Cond.selects "LedgerFilesModel" yX12_slotNumber yX12_slotNumber ∈ TB := tp_0 107 (by decide +kernel) rfl
def e_freeSlot_11 (R : RfT) : Nat → Int32 → Int32 → Int32 → Option (Int32)
  | 0, _, _, _ => none
  | n + 1, x1, x2, x3 => if x2 ≤ x3 then some ((-1 : Int32)) else bnd (e_slotNumber R x1 x3 ((0 : Int32)) ((2 : Int32))) (fun v75 => if v75 = 0 then some x3 else e_freeSlot_11 R n x1 x2 (x3 + (1 : Int32)))
def e_freeSlot (R : RfT) (a0 : Int32) : Option (Int32) := bnd (e_size R a0) (fun v74 => e_freeSlot_11 R fuL a0 ((v74) / ((16 : Int32))) ((0 : Int32)))
set_option maxRecDepth 100000 in
set_option maxHeartbeats 4000000 in
theorem l_X12_freeSlot_11 (E : gE) (f0 : Nat → va_E) (sz : Nat) (QA : Nat → Prop) (hE : 94 ≤ gN E) (R : RfT) : ∀ (n : Nat), ∀ (x1 : Int32) (x2 : Int32) (x3 : Int32) (r : Int32) (hr : e_freeSlot_11 R n x1 x2 x3 = some r) (f : Nat → va_E) (w : RW E f R) (hf : Fr RfK f0 f), G E (7, yX12_freeSlot, 4, (some .int), sz, QA) cX12_freeSlot (gO E (7, yX12_freeSlot, 4, (some .int), sz, QA) (fun v g => v = some (.int r) ∧ RW E g R ∧ Fr RfK f0 g, fun _ _ => False)) 11 [(0, .ref (gAd E (56))), (1, .int (x1)), (2, .int (x2)), (3, .int (x3))] [] f := by
  intro n
  induction n with
  | zero =>
    intro x1 x2 x3 r hr f w hf
    cases hr
  | succ n ih =>
    intro x1 x2 x3 r hr f w hf
    obtain ⟨az, sy, r0⟩ := w
    unfold e_freeSlot_11 at hr
    refine G.go tv_X12_freeSlot 2 13 [(0, .ref (gAd E (56))), (1, .int (x1)), (2, .int (x2)), (3, .int (x3))] [.int (x2), .int (x3)] rfl ?_
    refine G.cmp_ge 35 (tbd tv_X12_freeSlot rfl) (by decide) (fun c13 => ?_) (fun c13 => ?_)
    · replace hr := ite_t c13 hr
      refine G.go tv_X12_freeSlot 1 36 [(0, .ref (gAd E (56))), (1, .int (x1)), (2, .int (x2)), (3, .int (x3))] [.int ((-1 : Int32))] rfl ?_
      cases hr
      exact G.iret rfl rfl ⟨rfl, ⟨_, _, r0⟩, hf⟩ (tbd tv_X12_freeSlot rfl)
    · replace hr := ite_f c13 hr
      refine G.go tv_X12_freeSlot 5 21 [(0, .ref (gAd E (56))), (1, .int (x1)), (2, .int (x2)), (3, .int (x3))] [.int ((2 : Int32)), .int ((0 : Int32)), .int (x3), .int (x1), .ref (gAd E (56))] rfl ?_
      obtain ⟨v75, hv75, hr⟩ := bnd_s hr
      refine G.callV (56) [.int (x1), .int (x3), .int ((0 : Int32)), .int ((2 : Int32))] [] (k_X12_slotNumber E _ hE R ⟨_, _, r0⟩ x1 x3 ((0 : Int32)) ((2 : Int32)) v75 hv75) cls_X12 (by omega) (r0.o) cw_X12_347 w_2515 w_107 (Nat.le_of_ble_eq_true rfl) rfl (Nat.le_of_ble_eq_true rfl) (tbd tv_X12_freeSlot rfl) (fun v75w f75 q75 => ?_) (fun _ _ h => h.elim)
      obtain ⟨rfl, ⟨az75, sy75, r75⟩, fa75⟩ := q75
      refine G.eqs [.int (v75)] rfl ?_
      refine G.if_ne 29 (tbd tv_X12_freeSlot rfl) (by decide) (fun c24 => ?_) (fun c24 => ?_)
      · replace hr := ite_f c24 hr
        refine G.go tv_X12_freeSlot 2 11 [(0, .ref (gAd E (56))), (1, .int (x1)), (2, .int (x2)), (3, .int (x3 + (1 : Int32)))] [] rfl ?_
        refine G.less [(0, .ref (gAd E (56))), (1, .int (x1)), (2, .int (x2)), (3, .int (x3 + (1 : Int32)))] [0, 1, 2, 3] rfl ?_
        exact ih _ _ _ _ hr _ ⟨_, _, r75⟩ (hf.tr fa75 (fun _ h => h))
      · replace hr := ite_t c24 hr
        refine G.go tv_X12_freeSlot 1 28 [(0, .ref (gAd E (56))), (1, .int (x1)), (2, .int (x2)), (3, .int (x3))] [.int (x3)] rfl ?_
        cases hr
        exact G.iret rfl rfl ⟨rfl, ⟨_, _, r75⟩, (hf.tr fa75 (fun _ h => h))⟩ (tbd tv_X12_freeSlot rfl)
set_option maxRecDepth 100000 in
set_option maxHeartbeats 4000000 in
theorem k_X12_freeSlot (E : gE) (f : Nat → va_E) (hE : 94 ≤ gN E) (R : RfT) (w : RW E f R) (a0 : Int32) (r : Int32) (hr : e_freeSlot R a0 = some r) : Ct E 7 yX12_freeSlot cX12_freeSlot 4 (some .int) [.ref (gAd E (56)), .int (a0)] f (fun v g => v = some (.int r) ∧ RW E g R ∧ Fr RfK f g, fun _ _ => False) := by
  obtain ⟨az, sy, r0⟩ := w
  refine Ct.of (by decide) (Nat.le_of_ble_eq_true rfl) (fun sz => ?_)
  refine G.eql [(0, .ref (gAd E (56))), (1, .int (a0))] rfl ?_
  unfold e_freeSlot at hr
  refine G.go tv_X12_freeSlot 2 2 [(0, .ref (gAd E (56))), (1, .int (a0))] [.int (a0), .ref (gAd E (56))] rfl ?_
  obtain ⟨v74, hv74, hr⟩ := bnd_s hr
  refine G.callV (56) [.int (a0)] [] (k_X12_size E _ hE R ⟨_, _, r0⟩ a0 v74 hv74) cls_X12 (by omega) (r0.o) cw_X12_344 w_2503 w_104 (Nat.le_of_ble_eq_true rfl) rfl (Nat.le_of_ble_eq_true rfl) (tbd tv_X12_freeSlot rfl) (fun v74w f74 q74 => ?_) (fun _ _ h => h.elim)
  obtain ⟨rfl, ⟨az74, sy74, r74⟩, fa74⟩ := q74
  refine G.eqs [.int (v74)] rfl ?_
  refine G.go tv_X12_freeSlot 1 7 [(0, .ref (gAd E (56))), (1, .int (a0))] [.int ((16 : Int32)), .int (v74)] rfl ?_
  refine G.idiv (by decide) (tbd tv_X12_freeSlot rfl) ?_
  refine G.go tv_X12_freeSlot 3 11 [(0, .ref (gAd E (56))), (1, .int (a0)), (2, .int ((v74) / ((16 : Int32)))), (3, .int ((0 : Int32)))] [] rfl ?_
  refine G.less [(0, .ref (gAd E (56))), (1, .int (a0)), (2, .int ((v74) / ((16 : Int32)))), (3, .int ((0 : Int32)))] [0, 1, 2, 3] rfl ?_
  exact l_X12_freeSlot_11 E f sz _ hE R _ _ _ _ _ hr _ ⟨_, _, r74⟩ (Fr.rf.tr fa74 (fun _ h => h))
def tb_X12_names : List (Nat × Instr × Nat) := [(0, .aload_n 0, 1), (1, .iload_n 1, 1), (2, .invokevirtual 344, 3), (5, .bipush 16, 2), (7, .idiv, 1), (8, .istore_n 2, 1), (9, .iconst 0, 1), (10, .istore_n 3, 1), (11, .iconst 0, 1), (12, .istore 4, 2), (14, .iload 4, 2), (16, .iload_n 2, 1), (17, .if_icmp .ge 29, 3), (20, .aload_n 0, 1), (21, .iload_n 1, 1), (22, .iload 4, 2), (24, .iconst 0, 1), (25, .iconst 2, 1), (26, .invokevirtual 347, 3), (29, .ifCond .ne 7, 3), (32, .iload_n 3, 1), (33, .goto 6, 3), (36, .iload_n 3, 1), (37, .iconst 1, 1), (38, .iadd, 1), (39, .istore_n 3, 1), (40, .iinc 4 1, 3), (43, .goto (-29), 3), (46, .iload_n 3, 1), (47, .ireturn, 1)]
theorem tv_X12_names : Tv cX12_names tb_X12_names := by
  unfold Tv
  decide +kernel
def e_names_14 (R : RfT) : Nat → Int32 → Int32 → Int32 → Int32 → Option (Int32)
  | 0, _, _, _, _ => none
  | n + 1, x1, x2, x3, x4 => if x2 ≤ x4 then some x3 else bnd (e_slotNumber R x1 x4 ((0 : Int32)) ((2 : Int32))) (fun v77 => if v77 = 0 then e_names_14 R n x1 x2 x3 (x4 + (1 : Int32)) else e_names_14 R n x1 x2 ((x3) + ((1 : Int32))) (x4 + (1 : Int32)))
def e_names (R : RfT) (a0 : Int32) : Option (Int32) := bnd (e_size R a0) (fun v76 => e_names_14 R fuL a0 ((v76) / ((16 : Int32))) ((0 : Int32)) ((0 : Int32)))
set_option maxRecDepth 100000 in
set_option maxHeartbeats 4000000 in
theorem l_X12_names_14 (E : gE) (f0 : Nat → va_E) (sz : Nat) (QA : Nat → Prop) (hE : 94 ≤ gN E) (R : RfT) : ∀ (n : Nat), ∀ (x1 : Int32) (x2 : Int32) (x3 : Int32) (x4 : Int32) (r : Int32) (hr : e_names_14 R n x1 x2 x3 x4 = some r) (f : Nat → va_E) (w : RW E f R) (hf : Fr RfK f0 f), G E (7, yX12_names, 5, (some .int), sz, QA) cX12_names (gO E (7, yX12_names, 5, (some .int), sz, QA) (fun v g => v = some (.int r) ∧ RW E g R ∧ Fr RfK f0 g, fun _ _ => False)) 14 [(0, .ref (gAd E (56))), (1, .int (x1)), (2, .int (x2)), (3, .int (x3)), (4, .int (x4))] [] f := by
  intro n
  induction n with
  | zero =>
    intro x1 x2 x3 x4 r hr f w hf
    cases hr
  | succ n ih =>
    intro x1 x2 x3 x4 r hr f w hf
    obtain ⟨az, sy, r0⟩ := w
    unfold e_names_14 at hr
    refine G.go tv_X12_names 2 17 [(0, .ref (gAd E (56))), (1, .int (x1)), (2, .int (x2)), (3, .int (x3)), (4, .int (x4))] [.int (x2), .int (x4)] rfl ?_
    refine G.cmp_ge 46 (tbd tv_X12_names rfl) (by decide) (fun c17 => ?_) (fun c17 => ?_)
    · replace hr := ite_t c17 hr
      refine G.go tv_X12_names 1 47 [(0, .ref (gAd E (56))), (1, .int (x1)), (2, .int (x2)), (3, .int (x3)), (4, .int (x4))] [.int (x3)] rfl ?_
      cases hr
      exact G.iret rfl rfl ⟨rfl, ⟨_, _, r0⟩, hf⟩ (tbd tv_X12_names rfl)
    · replace hr := ite_f c17 hr
      refine G.go tv_X12_names 5 26 [(0, .ref (gAd E (56))), (1, .int (x1)), (2, .int (x2)), (3, .int (x3)), (4, .int (x4))] [.int ((2 : Int32)), .int ((0 : Int32)), .int (x4), .int (x1), .ref (gAd E (56))] rfl ?_
      obtain ⟨v77, hv77, hr⟩ := bnd_s hr
      refine G.callV (56) [.int (x1), .int (x4), .int ((0 : Int32)), .int ((2 : Int32))] [] (k_X12_slotNumber E _ hE R ⟨_, _, r0⟩ x1 x4 ((0 : Int32)) ((2 : Int32)) v77 hv77) cls_X12 (by omega) (r0.o) cw_X12_347 w_2515 w_107 (Nat.le_of_ble_eq_true rfl) rfl (Nat.le_of_ble_eq_true rfl) (tbd tv_X12_names rfl) (fun v77w f77 q77 => ?_) (fun _ _ h => h.elim)
      obtain ⟨rfl, ⟨az77, sy77, r77⟩, fa77⟩ := q77
      refine G.eqs [.int (v77)] rfl ?_
      refine G.if_ne 36 (tbd tv_X12_names rfl) (by decide) (fun c29 => ?_) (fun c29 => ?_)
      · replace hr := ite_f c29 hr
        refine G.go tv_X12_names 6 14 [(0, .ref (gAd E (56))), (1, .int (x1)), (2, .int (x2)), (3, .int ((x3) + ((1 : Int32)))), (4, .int (x4 + (1 : Int32)))] [] rfl ?_
        refine G.less [(0, .ref (gAd E (56))), (1, .int (x1)), (2, .int (x2)), (3, .int ((x3) + ((1 : Int32)))), (4, .int (x4 + (1 : Int32)))] [0, 1, 2, 3, 4] rfl ?_
        exact ih _ _ _ _ _ hr _ ⟨_, _, r77⟩ (hf.tr fa77 (fun _ h => h))
      · replace hr := ite_t c29 hr
        refine G.go tv_X12_names 5 14 [(0, .ref (gAd E (56))), (1, .int (x1)), (2, .int (x2)), (3, .int (x3)), (4, .int (x4 + (1 : Int32)))] [] rfl ?_
        refine G.less [(0, .ref (gAd E (56))), (1, .int (x1)), (2, .int (x2)), (3, .int (x3)), (4, .int (x4 + (1 : Int32)))] [0, 1, 2, 3, 4] rfl ?_
        exact ih _ _ _ _ _ hr _ ⟨_, _, r77⟩ (hf.tr fa77 (fun _ h => h))
set_option maxRecDepth 100000 in
set_option maxHeartbeats 4000000 in
theorem k_X12_names (E : gE) (f : Nat → va_E) (hE : 94 ≤ gN E) (R : RfT) (w : RW E f R) (a0 : Int32) (r : Int32) (hr : e_names R a0 = some r) : Ct E 7 yX12_names cX12_names 5 (some .int) [.ref (gAd E (56)), .int (a0)] f (fun v g => v = some (.int r) ∧ RW E g R ∧ Fr RfK f g, fun _ _ => False) := by
  obtain ⟨az, sy, r0⟩ := w
  refine Ct.of (by decide) (Nat.le_of_ble_eq_true rfl) (fun sz => ?_)
  refine G.eql [(0, .ref (gAd E (56))), (1, .int (a0))] rfl ?_
  unfold e_names at hr
  refine G.go tv_X12_names 2 2 [(0, .ref (gAd E (56))), (1, .int (a0))] [.int (a0), .ref (gAd E (56))] rfl ?_
  obtain ⟨v76, hv76, hr⟩ := bnd_s hr
  refine G.callV (56) [.int (a0)] [] (k_X12_size E _ hE R ⟨_, _, r0⟩ a0 v76 hv76) cls_X12 (by omega) (r0.o) cw_X12_344 w_2503 w_104 (Nat.le_of_ble_eq_true rfl) rfl (Nat.le_of_ble_eq_true rfl) (tbd tv_X12_names rfl) (fun v76w f76 q76 => ?_) (fun _ _ h => h.elim)
  obtain ⟨rfl, ⟨az76, sy76, r76⟩, fa76⟩ := q76
  refine G.eqs [.int (v76)] rfl ?_
  refine G.go tv_X12_names 1 7 [(0, .ref (gAd E (56))), (1, .int (a0))] [.int ((16 : Int32)), .int (v76)] rfl ?_
  refine G.idiv (by decide) (tbd tv_X12_names rfl) ?_
  refine G.go tv_X12_names 5 14 [(0, .ref (gAd E (56))), (1, .int (a0)), (2, .int ((v76) / ((16 : Int32)))), (3, .int ((0 : Int32))), (4, .int ((0 : Int32)))] [] rfl ?_
  refine G.less [(0, .ref (gAd E (56))), (1, .int (a0)), (2, .int ((v76) / ((16 : Int32)))), (3, .int ((0 : Int32))), (4, .int ((0 : Int32)))] [0, 1, 2, 3, 4] rfl ?_
  exact l_X12_names_14 E f sz _ hE R _ _ _ _ _ _ hr _ ⟨_, _, r76⟩ (Fr.rf.tr fa76 (fun _ h => h))
def tb_X12_freeInode : List (Nat × Instr × Nat) := [(0, .iconst 1, 1), (1, .istore_n 1, 1), (2, .iload_n 1, 1), (3, .bipush 64, 2), (5, .if_icmp .gt 19, 3), (8, .aload_n 0, 1), (9, .iload_n 1, 1), (10, .invokevirtual 326, 3), (13, .ifCond .ne 5, 3), (16, .iload_n 1, 1), (17, .ireturn, 1), (18, .iinc 1 1, 3), (21, .goto (-19), 3), (24, .iconst 0, 1), (25, .ireturn, 1)]
theorem tv_X12_freeInode : Tv cX12_freeInode tb_X12_freeInode := by
  unfold Tv
  decide +kernel
theorem w_2367 : Cond.methodLink "LedgerFilesModel" 326 yX12_kind ∈ TB := tp_10 61 (by decide +kernel) rfl
theorem w_2370 : Cond.code yX12_kind prog_14_method_43_code 2 (some .int) ∈ TB := tp_10 64 rfl rfl
theorem cw_X12_326 : Cw RX12 326 yX12_kind cX12_kind 2 (some .int) 1 := ⟨w_2367, w_2370, w_161, by decide +kernel, by decide +kernel, by decide⟩
theorem w_2369 : Cond.instanceMethod yX12_kind ∈ TB := tp_10 63 (by decide +kernel) rfl
theorem w_74 : Cond.selects "LedgerFilesModel" yX12_kind yX12_kind ∈ TB := tp_0 74 (by decide +kernel) rfl
def e_freeInode_2 (R : RfT) : Nat → Int32 → Option (Int32)
  | 0, _ => none
  | n + 1, x1 => if ((64 : Int32)) < x1 then some ((0 : Int32)) else bnd (e_kind R x1) (fun v78 => if v78 = 0 then some x1 else e_freeInode_2 R n (x1 + (1 : Int32)))
def e_freeInode (R : RfT) : Option (Int32) := e_freeInode_2 R fuL ((1 : Int32))
set_option maxRecDepth 100000 in
set_option maxHeartbeats 4000000 in
theorem l_X12_freeInode_2 (E : gE) (f0 : Nat → va_E) (sz : Nat) (QA : Nat → Prop) (hE : 94 ≤ gN E) (R : RfT) : ∀ (n : Nat), ∀ (x1 : Int32) (r : Int32) (hr : e_freeInode_2 R n x1 = some r) (f : Nat → va_E) (w : RW E f R) (hf : Fr RfK f0 f), G E (5, yX12_freeInode, 2, (some .int), sz, QA) cX12_freeInode (gO E (5, yX12_freeInode, 2, (some .int), sz, QA) (fun v g => v = some (.int r) ∧ RW E g R ∧ Fr RfK f0 g, fun _ _ => False)) 2 [(0, .ref (gAd E (56))), (1, .int (x1))] [] f := by
  intro n
  induction n with
  | zero =>
    intro x1 r hr f w hf
    cases hr
  | succ n ih =>
    intro x1 r hr f w hf
    obtain ⟨az, sy, r0⟩ := w
    unfold e_freeInode_2 at hr
    refine G.go tv_X12_freeInode 2 5 [(0, .ref (gAd E (56))), (1, .int (x1))] [.int ((64 : Int32)), .int (x1)] rfl ?_
    refine G.cmp_gt 24 (tbd tv_X12_freeInode rfl) (by decide) (fun c5 => ?_) (fun c5 => ?_)
    · replace hr := ite_t c5 hr
      refine G.go tv_X12_freeInode 1 25 [(0, .ref (gAd E (56))), (1, .int (x1))] [.int ((0 : Int32))] rfl ?_
      cases hr
      exact G.iret rfl rfl ⟨rfl, ⟨_, _, r0⟩, hf⟩ (tbd tv_X12_freeInode rfl)
    · replace hr := ite_f c5 hr
      refine G.go tv_X12_freeInode 2 10 [(0, .ref (gAd E (56))), (1, .int (x1))] [.int (x1), .ref (gAd E (56))] rfl ?_
      obtain ⟨v78, hv78, hr⟩ := bnd_s hr
      refine G.callV (56) [.int (x1)] [] (k_X12_kind E _ hE R ⟨_, _, r0⟩ x1 v78 hv78) cls_X12 (by omega) (r0.o) cw_X12_326 w_2369 w_74 (Nat.le_of_ble_eq_true rfl) rfl (Nat.le_of_ble_eq_true rfl) (tbd tv_X12_freeInode rfl) (fun v78w f78 q78 => ?_) (fun _ _ h => h.elim)
      obtain ⟨rfl, ⟨az78, sy78, r78⟩, fa78⟩ := q78
      refine G.eqs [.int (v78)] rfl ?_
      refine G.if_ne 18 (tbd tv_X12_freeInode rfl) (by decide) (fun c13 => ?_) (fun c13 => ?_)
      · replace hr := ite_f c13 hr
        refine G.go tv_X12_freeInode 2 2 [(0, .ref (gAd E (56))), (1, .int (x1 + (1 : Int32)))] [] rfl ?_
        refine G.less [(0, .ref (gAd E (56))), (1, .int (x1 + (1 : Int32)))] [0, 1] rfl ?_
        exact ih _ _ hr _ ⟨_, _, r78⟩ (hf.tr fa78 (fun _ h => h))
      · replace hr := ite_t c13 hr
        refine G.go tv_X12_freeInode 1 17 [(0, .ref (gAd E (56))), (1, .int (x1))] [.int (x1)] rfl ?_
        cases hr
        exact G.iret rfl rfl ⟨rfl, ⟨_, _, r78⟩, (hf.tr fa78 (fun _ h => h))⟩ (tbd tv_X12_freeInode rfl)
set_option maxRecDepth 100000 in
set_option maxHeartbeats 4000000 in
theorem k_X12_freeInode (E : gE) (f : Nat → va_E) (hE : 94 ≤ gN E) (R : RfT) (w : RW E f R) (r : Int32) (hr : e_freeInode R = some r) : Ct E 5 yX12_freeInode cX12_freeInode 2 (some .int) [.ref (gAd E (56))] f (fun v g => v = some (.int r) ∧ RW E g R ∧ Fr RfK f g, fun _ _ => False) := by
  obtain ⟨az, sy, r0⟩ := w
  refine Ct.of (by decide) (Nat.le_of_ble_eq_true rfl) (fun sz => ?_)
  refine G.eql [(0, .ref (gAd E (56)))] rfl ?_
  unfold e_freeInode at hr
  refine G.go tv_X12_freeInode 2 2 [(0, .ref (gAd E (56))), (1, .int ((1 : Int32)))] [] rfl ?_
  refine G.less [(0, .ref (gAd E (56))), (1, .int ((1 : Int32)))] [0, 1] rfl ?_
  exact l_X12_freeInode_2 E f sz _ hE R _ _ _ hr _ ⟨_, _, r0⟩ Fr.rf
def tb_X12_handlesOn : List (Nat × Instr × Nat) := [(0, .iconst 0, 1), (1, .istore_n 2, 1), (2, .iconst 0, 1), (3, .istore_n 3, 1), (4, .iload_n 3, 1), (5, .bipush 32, 2), (7, .if_icmp .ge 27, 3), (10, .aload_n 0, 1), (11, .getfield 113, 3), (14, .iload_n 3, 1), (15, .iaload, 1), (16, .iload_n 1, 1), (17, .if_icmp .ne 9, 3), (20, .iload_n 2, 1), (21, .iconst 1, 1), (22, .iadd, 1), (23, .goto 4, 3), (26, .iload_n 2, 1), (27, .istore_n 2, 1), (28, .iinc 3 1, 3), (31, .goto (-27), 3), (34, .iload_n 2, 1), (35, .ireturn, 1)]
theorem tv_X12_handlesOn : Tv cX12_handlesOn tb_X12_handlesOn := by
  unfold Tv
  decide +kernel
def e_handlesOn_4 (R : RfT) : Nat → Int32 → Int32 → Int32 → Option (Int32)
  | 0, _, _, _ => none
  | n + 1, x1, x2, x3 => if ((32 : Int32)) ≤ x3 then some x2 else ld (rA R 53) 32 x3 (fun v79 => if v79 = x1 then e_handlesOn_4 R n x1 ((x2) + ((1 : Int32))) (x3 + (1 : Int32)) else e_handlesOn_4 R n x1 x2 (x3 + (1 : Int32)))
def e_handlesOn (R : RfT) (a0 : Int32) : Option (Int32) := e_handlesOn_4 R fuL a0 ((0 : Int32)) ((0 : Int32))
set_option maxRecDepth 100000 in
set_option maxHeartbeats 4000000 in
theorem l_X12_handlesOn_4 (E : gE) (f0 : Nat → va_E) (sz : Nat) (QA : Nat → Prop) (hE : 94 ≤ gN E) (R : RfT) : ∀ (n : Nat), ∀ (x1 : Int32) (x2 : Int32) (x3 : Int32) (r : Int32) (hr : e_handlesOn_4 R n x1 x2 x3 = some r) (f : Nat → va_E) (w : RW E f R) (hf : Fr RfK f0 f), G E (1, yX12_handlesOn, 4, (some .int), sz, QA) cX12_handlesOn (gO E (1, yX12_handlesOn, 4, (some .int), sz, QA) (fun v g => v = some (.int r) ∧ RW E g R ∧ Fr RfK f0 g, fun _ _ => False)) 4 [(0, .ref (gAd E (56))), (1, .int (x1)), (2, .int (x2)), (3, .int (x3))] [] f := by
  intro n
  induction n with
  | zero =>
    intro x1 x2 x3 r hr f w hf
    cases hr
  | succ n ih =>
    intro x1 x2 x3 r hr f w hf
    obtain ⟨az, sy, r0⟩ := w
    unfold e_handlesOn_4 at hr
    refine G.go tv_X12_handlesOn 2 7 [(0, .ref (gAd E (56))), (1, .int (x1)), (2, .int (x2)), (3, .int (x3))] [.int ((32 : Int32)), .int (x3)] rfl ?_
    refine G.cmp_ge 34 (tbd tv_X12_handlesOn rfl) (by decide) (fun c7 => ?_) (fun c7 => ?_)
    · replace hr := ite_t c7 hr
      refine G.go tv_X12_handlesOn 1 35 [(0, .ref (gAd E (56))), (1, .int (x1)), (2, .int (x2)), (3, .int (x3))] [.int (x2)] rfl ?_
      cases hr
      exact G.iret rfl rfl ⟨rfl, ⟨_, _, r0⟩, hf⟩ (tbd tv_X12_handlesOn rfl)
    · replace hr := ite_f c7 hr
      refine G.go tv_X12_handlesOn 1 11 [(0, .ref (gAd E (56))), (1, .int (x1)), (2, .int (x2)), (3, .int (x3))] [.ref (gAd E (56))] rfl ?_
      refine G.rg r0 hE 53 (.ref (gAd E (87))) (by decide) rfl (tbd tv_X12_handlesOn rfl) w_2118 ?_
      refine G.go tv_X12_handlesOn 1 15 [(0, .ref (gAd E (56))), (1, .int (x1)), (2, .int (x2)), (3, .int (x3))] [.int (x3), .ref (gAd E (87))] rfl ?_
      obtain ⟨v79, b79, e79, hr⟩ := ld_s hr
      refine G.ialdE (87) (by omega) (r0.a53) b79 e79 (tbd tv_X12_handlesOn rfl) ?_
      refine G.go tv_X12_handlesOn 1 17 [(0, .ref (gAd E (56))), (1, .int (x1)), (2, .int (x2)), (3, .int (x3))] [.int (x1), .int (v79)] rfl ?_
      refine G.cmp_ne 26 (tbd tv_X12_handlesOn rfl) (by decide) (fun c17 => ?_) (fun c17 => ?_)
      · replace hr := ite_f c17 hr
        refine G.go tv_X12_handlesOn 4 4 [(0, .ref (gAd E (56))), (1, .int (x1)), (2, .int (x2)), (3, .int (x3 + (1 : Int32)))] [] rfl ?_
        refine G.less [(0, .ref (gAd E (56))), (1, .int (x1)), (2, .int (x2)), (3, .int (x3 + (1 : Int32)))] [0, 1, 2, 3] rfl ?_
        exact ih _ _ _ _ hr _ ⟨_, _, r0⟩ hf
      · replace hr := ite_t c17 hr
        refine G.go tv_X12_handlesOn 7 4 [(0, .ref (gAd E (56))), (1, .int (x1)), (2, .int ((x2) + ((1 : Int32)))), (3, .int (x3 + (1 : Int32)))] [] rfl ?_
        refine G.less [(0, .ref (gAd E (56))), (1, .int (x1)), (2, .int ((x2) + ((1 : Int32)))), (3, .int (x3 + (1 : Int32)))] [0, 1, 2, 3] rfl ?_
        exact ih _ _ _ _ hr _ ⟨_, _, r0⟩ hf
set_option maxRecDepth 100000 in
set_option maxHeartbeats 4000000 in
theorem k_X12_handlesOn (E : gE) (f : Nat → va_E) (hE : 94 ≤ gN E) (R : RfT) (w : RW E f R) (a0 : Int32) (r : Int32) (hr : e_handlesOn R a0 = some r) : Ct E 1 yX12_handlesOn cX12_handlesOn 4 (some .int) [.ref (gAd E (56)), .int (a0)] f (fun v g => v = some (.int r) ∧ RW E g R ∧ Fr RfK f g, fun _ _ => False) := by
  obtain ⟨az, sy, r0⟩ := w
  refine Ct.of (by decide) (Nat.le_of_ble_eq_true rfl) (fun sz => ?_)
  refine G.eql [(0, .ref (gAd E (56))), (1, .int (a0))] rfl ?_
  unfold e_handlesOn at hr
  refine G.go tv_X12_handlesOn 4 4 [(0, .ref (gAd E (56))), (1, .int (a0)), (2, .int ((0 : Int32))), (3, .int ((0 : Int32)))] [] rfl ?_
  refine G.less [(0, .ref (gAd E (56))), (1, .int (a0)), (2, .int ((0 : Int32))), (3, .int ((0 : Int32)))] [0, 1, 2, 3] rfl ?_
  exact l_X12_handlesOn_4 E f sz _ hE R _ _ _ _ _ hr _ ⟨_, _, r0⟩ Fr.rf
def tb_X12_isHeld : List (Nat × Instr × Nat) := [(0, .aload_n 0, 1), (1, .getfield 110, 3), (4, .iload_n 1, 1), (5, .iaload, 1), (6, .ifCond .gt 11, 3), (9, .aload_n 0, 1), (10, .iload_n 1, 1), (11, .invokevirtual 367, 3), (14, .ifCond .le 7, 3), (17, .iconst 1, 1), (18, .goto 4, 3), (21, .iconst 0, 1), (22, .ireturn, 1)]
theorem tv_X12_isHeld : Tv cX12_isHeld tb_X12_isHeld := by
  unfold Tv
  decide +kernel
theorem w_2390 : Cond.methodLink "LedgerFilesModel" 367 yX12_handlesOn ∈ TB := tp_10 84 (by decide +kernel) rfl
theorem w_2393 : Cond.code yX12_handlesOn prog_14_method_69_code 4 (some .int) ∈ TB := tp_10 87 rfl rfl
theorem cw_X12_367 : Cw RX12 367 yX12_handlesOn cX12_handlesOn 4 (some .int) 1 := ⟨w_2390, w_2393, w_161, by decide +kernel, by decide +kernel, by decide⟩
theorem w_2392 : Cond.instanceMethod yX12_handlesOn ∈ TB := tp_10 86 (by decide +kernel) rfl
theorem w_79 : Cond.selects "LedgerFilesModel" yX12_handlesOn yX12_handlesOn ∈ TB := tp_0 79 (by decide +kernel) rfl
def e_isHeld (R : RfT) (a0 : Int32) : Option (Int32) := ld (rA R 52) 65 a0 (fun v80 => if 0 < v80 then some ((1 : Int32)) else bnd (e_handlesOn R a0) (fun v81 => if v81 ≤ 0 then some ((0 : Int32)) else some ((1 : Int32))))
set_option maxRecDepth 100000 in
set_option maxHeartbeats 4000000 in
theorem k_X12_isHeld (E : gE) (f : Nat → va_E) (hE : 94 ≤ gN E) (R : RfT) (w : RW E f R) (a0 : Int32) (r : Int32) (hr : e_isHeld R a0 = some r) : Ct E 2 yX12_isHeld cX12_isHeld 2 (some .boolean) [.ref (gAd E (56)), .int (a0)] f (fun v g => v = some (.int r) ∧ RW E g R ∧ Fr RfK f g, fun _ _ => False) := by
  obtain ⟨az, sy, r0⟩ := w
  refine Ct.of (by decide) (Nat.le_of_ble_eq_true rfl) (fun sz => ?_)
  refine G.eql [(0, .ref (gAd E (56))), (1, .int (a0))] rfl ?_
  unfold e_isHeld at hr
  refine G.go tv_X12_isHeld 1 1 [(0, .ref (gAd E (56))), (1, .int (a0))] [.ref (gAd E (56))] rfl ?_
  refine G.rg r0 hE 52 (.ref (gAd E (86))) (by decide) rfl (tbd tv_X12_isHeld rfl) w_2117 ?_
  refine G.go tv_X12_isHeld 1 5 [(0, .ref (gAd E (56))), (1, .int (a0))] [.int (a0), .ref (gAd E (86))] rfl ?_
  obtain ⟨v80, b80, e80, hr⟩ := ld_s hr
  refine G.ialdE (86) (by omega) (r0.a52) b80 e80 (tbd tv_X12_isHeld rfl) ?_
  refine G.if_gt 17 (tbd tv_X12_isHeld rfl) (by decide) (fun c6 => ?_) (fun c6 => ?_)
  · replace hr := ite_t c6 hr
    refine G.go tv_X12_isHeld 2 22 [(0, .ref (gAd E (56))), (1, .int (a0))] [.int ((1 : Int32))] rfl ?_
    cases hr
    exact G.iret rfl rfl ⟨rfl, ⟨_, _, r0⟩, Fr.rf⟩ (tbd tv_X12_isHeld rfl)
  · replace hr := ite_f c6 hr
    refine G.go tv_X12_isHeld 2 11 [(0, .ref (gAd E (56))), (1, .int (a0))] [.int (a0), .ref (gAd E (56))] rfl ?_
    obtain ⟨v81, hv81, hr⟩ := bnd_s hr
    refine G.callV (56) [.int (a0)] [] (k_X12_handlesOn E _ hE R ⟨_, _, r0⟩ a0 v81 hv81) cls_X12 (by omega) (r0.o) cw_X12_367 w_2392 w_79 (Nat.le_of_ble_eq_true rfl) rfl (Nat.le_of_ble_eq_true rfl) (tbd tv_X12_isHeld rfl) (fun v81w f81 q81 => ?_) (fun _ _ h => h.elim)
    obtain ⟨rfl, ⟨az81, sy81, r81⟩, fa81⟩ := q81
    refine G.eqs [.int (v81)] rfl ?_
    refine G.if_le 21 (tbd tv_X12_isHeld rfl) (by decide) (fun c14 => ?_) (fun c14 => ?_)
    · replace hr := ite_t c14 hr
      refine G.go tv_X12_isHeld 1 22 [(0, .ref (gAd E (56))), (1, .int (a0))] [.int ((0 : Int32))] rfl ?_
      cases hr
      exact G.iret rfl rfl ⟨rfl, ⟨_, _, r81⟩, (Fr.rf.tr fa81 (fun _ h => h))⟩ (tbd tv_X12_isHeld rfl)
    · replace hr := ite_f c14 hr
      refine G.go tv_X12_isHeld 2 22 [(0, .ref (gAd E (56))), (1, .int (a0))] [.int ((1 : Int32))] rfl ?_
      cases hr
      exact G.iret rfl rfl ⟨rfl, ⟨_, _, r81⟩, (Fr.rf.tr fa81 (fun _ h => h))⟩ (tbd tv_X12_isHeld rfl)
def tb_X12_isLost : List (Nat × Instr × Nat) := [(0, .aload_n 0, 1), (1, .iload_n 1, 1), (2, .invokevirtual 326, 3), (5, .ifCond .eq 17, 3), (8, .aload_n 0, 1), (9, .iload_n 1, 1), (10, .iconst 1, 1), (11, .iconst 1, 1), (12, .invokevirtual 303, 3), (15, .ifCond .ne 7, 3), (18, .iconst 1, 1), (19, .goto 4, 3), (22, .iconst 0, 1), (23, .ireturn, 1)]
theorem tv_X12_isLost : Tv cX12_isLost tb_X12_isLost := by
  unfold Tv
  decide +kernel
def e_isLost (R : RfT) (a0 : Int32) : Option (Int32) := bnd (e_kind R a0) (fun v82 => if v82 = 0 then some ((0 : Int32)) else bnd (e_field R a0 ((1 : Int32)) ((1 : Int32))) (fun v83 => if v83 = 0 then some ((1 : Int32)) else some ((0 : Int32))))
set_option maxRecDepth 100000 in
set_option maxHeartbeats 4000000 in
theorem k_X12_isLost (E : gE) (f : Nat → va_E) (hE : 94 ≤ gN E) (R : RfT) (w : RW E f R) (a0 : Int32) (r : Int32) (hr : e_isLost R a0 = some r) : Ct E 5 yX12_isLost cX12_isLost 2 (some .boolean) [.ref (gAd E (56)), .int (a0)] f (fun v g => v = some (.int r) ∧ RW E g R ∧ Fr RfK f g, fun _ _ => False) := by
  obtain ⟨az, sy, r0⟩ := w
  refine Ct.of (by decide) (Nat.le_of_ble_eq_true rfl) (fun sz => ?_)
  refine G.eql [(0, .ref (gAd E (56))), (1, .int (a0))] rfl ?_
  unfold e_isLost at hr
  refine G.go tv_X12_isLost 2 2 [(0, .ref (gAd E (56))), (1, .int (a0))] [.int (a0), .ref (gAd E (56))] rfl ?_
  obtain ⟨v82, hv82, hr⟩ := bnd_s hr
  refine G.callV (56) [.int (a0)] [] (k_X12_kind E _ hE R ⟨_, _, r0⟩ a0 v82 hv82) cls_X12 (by omega) (r0.o) cw_X12_326 w_2369 w_74 (Nat.le_of_ble_eq_true rfl) rfl (Nat.le_of_ble_eq_true rfl) (tbd tv_X12_isLost rfl) (fun v82w f82 q82 => ?_) (fun _ _ h => h.elim)
  obtain ⟨rfl, ⟨az82, sy82, r82⟩, fa82⟩ := q82
  refine G.eqs [.int (v82)] rfl ?_
  refine G.if_eq 22 (tbd tv_X12_isLost rfl) (by decide) (fun c5 => ?_) (fun c5 => ?_)
  · replace hr := ite_t c5 hr
    refine G.go tv_X12_isLost 1 23 [(0, .ref (gAd E (56))), (1, .int (a0))] [.int ((0 : Int32))] rfl ?_
    cases hr
    exact G.iret rfl rfl ⟨rfl, ⟨_, _, r82⟩, (Fr.rf.tr fa82 (fun _ h => h))⟩ (tbd tv_X12_isLost rfl)
  · replace hr := ite_f c5 hr
    refine G.go tv_X12_isLost 4 12 [(0, .ref (gAd E (56))), (1, .int (a0))] [.int ((1 : Int32)), .int ((1 : Int32)), .int (a0), .ref (gAd E (56))] rfl ?_
    obtain ⟨v83, hv83, hr⟩ := bnd_s hr
    refine G.callV (56) [.int (a0), .int ((1 : Int32)), .int ((1 : Int32))] [] (k_X12_field E _ hE R ⟨_, _, r82⟩ a0 ((1 : Int32)) ((1 : Int32)) v83 hv83) cls_X12 (by omega) (r82.o) cw_X12_303 w_2373 w_75 (Nat.le_of_ble_eq_true rfl) rfl (Nat.le_of_ble_eq_true rfl) (tbd tv_X12_isLost rfl) (fun v83w f83 q83 => ?_) (fun _ _ h => h.elim)
    obtain ⟨rfl, ⟨az83, sy83, r83⟩, fa83⟩ := q83
    refine G.eqs [.int (v83)] rfl ?_
    refine G.if_ne 22 (tbd tv_X12_isLost rfl) (by decide) (fun c15 => ?_) (fun c15 => ?_)
    · replace hr := ite_f c15 hr
      refine G.go tv_X12_isLost 1 23 [(0, .ref (gAd E (56))), (1, .int (a0))] [.int ((0 : Int32))] rfl ?_
      cases hr
      exact G.iret rfl rfl ⟨rfl, ⟨_, _, r83⟩, ((Fr.rf.tr fa82 (fun _ h => h)).tr fa83 (fun _ h => h))⟩ (tbd tv_X12_isLost rfl)
    · replace hr := ite_t c15 hr
      refine G.go tv_X12_isLost 2 23 [(0, .ref (gAd E (56))), (1, .int (a0))] [.int ((1 : Int32))] rfl ?_
      cases hr
      exact G.iret rfl rfl ⟨rfl, ⟨_, _, r83⟩, ((Fr.rf.tr fa82 (fun _ h => h)).tr fa83 (fun _ h => h))⟩ (tbd tv_X12_isLost rfl)
def tb_X12_isHandle : List (Nat × Instr × Nat) := [(0, .iload_n 1, 1), (1, .ifCond .lt 22, 3), (4, .iload_n 1, 1), (5, .bipush 32, 2), (7, .if_icmp .ge 16, 3), (10, .aload_n 0, 1), (11, .getfield 113, 3), (14, .iload_n 1, 1), (15, .iaload, 1), (16, .ifCond .eq 7, 3), (19, .iconst 1, 1), (20, .goto 4, 3), (23, .iconst 0, 1), (24, .ireturn, 1)]
theorem tv_X12_isHandle : Tv cX12_isHandle tb_X12_isHandle := by
  unfold Tv
  decide +kernel
def e_isHandle (R : RfT) (a0 : Int32) : Option (Int32) := if a0 < 0 then some ((0 : Int32)) else if ((32 : Int32)) ≤ a0 then some ((0 : Int32)) else ld (rA R 53) 32 a0 (fun v84 => if v84 = 0 then some ((0 : Int32)) else some ((1 : Int32)))
set_option maxRecDepth 100000 in
set_option maxHeartbeats 4000000 in
theorem k_X12_isHandle (E : gE) (f : Nat → va_E) (hE : 94 ≤ gN E) (R : RfT) (w : RW E f R) (a0 : Int32) (r : Int32) (hr : e_isHandle R a0 = some r) : Ct E 1 yX12_isHandle cX12_isHandle 2 (some .boolean) [.ref (gAd E (56)), .int (a0)] f (fun v g => v = some (.int r) ∧ RW E g R ∧ Fr RfK f g, fun _ _ => False) := by
  obtain ⟨az, sy, r0⟩ := w
  refine Ct.of (by decide) (Nat.le_of_ble_eq_true rfl) (fun sz => ?_)
  refine G.eql [(0, .ref (gAd E (56))), (1, .int (a0))] rfl ?_
  unfold e_isHandle at hr
  refine G.go tv_X12_isHandle 1 1 [(0, .ref (gAd E (56))), (1, .int (a0))] [.int (a0)] rfl ?_
  refine G.if_lt 23 (tbd tv_X12_isHandle rfl) (by decide) (fun c1 => ?_) (fun c1 => ?_)
  · replace hr := ite_t c1 hr
    refine G.go tv_X12_isHandle 1 24 [(0, .ref (gAd E (56))), (1, .int (a0))] [.int ((0 : Int32))] rfl ?_
    cases hr
    exact G.iret rfl rfl ⟨rfl, ⟨_, _, r0⟩, Fr.rf⟩ (tbd tv_X12_isHandle rfl)
  · replace hr := ite_f c1 hr
    refine G.go tv_X12_isHandle 2 7 [(0, .ref (gAd E (56))), (1, .int (a0))] [.int ((32 : Int32)), .int (a0)] rfl ?_
    refine G.cmp_ge 23 (tbd tv_X12_isHandle rfl) (by decide) (fun c7 => ?_) (fun c7 => ?_)
    · replace hr := ite_t c7 hr
      refine G.go tv_X12_isHandle 1 24 [(0, .ref (gAd E (56))), (1, .int (a0))] [.int ((0 : Int32))] rfl ?_
      cases hr
      exact G.iret rfl rfl ⟨rfl, ⟨_, _, r0⟩, Fr.rf⟩ (tbd tv_X12_isHandle rfl)
    · replace hr := ite_f c7 hr
      refine G.go tv_X12_isHandle 1 11 [(0, .ref (gAd E (56))), (1, .int (a0))] [.ref (gAd E (56))] rfl ?_
      refine G.rg r0 hE 53 (.ref (gAd E (87))) (by decide) rfl (tbd tv_X12_isHandle rfl) w_2118 ?_
      refine G.go tv_X12_isHandle 1 15 [(0, .ref (gAd E (56))), (1, .int (a0))] [.int (a0), .ref (gAd E (87))] rfl ?_
      obtain ⟨v84, b84, e84, hr⟩ := ld_s hr
      refine G.ialdE (87) (by omega) (r0.a53) b84 e84 (tbd tv_X12_isHandle rfl) ?_
      refine G.if_eq 23 (tbd tv_X12_isHandle rfl) (by decide) (fun c16 => ?_) (fun c16 => ?_)
      · replace hr := ite_t c16 hr
        refine G.go tv_X12_isHandle 1 24 [(0, .ref (gAd E (56))), (1, .int (a0))] [.int ((0 : Int32))] rfl ?_
        cases hr
        exact G.iret rfl rfl ⟨rfl, ⟨_, _, r0⟩, Fr.rf⟩ (tbd tv_X12_isHandle rfl)
      · replace hr := ite_f c16 hr
        refine G.go tv_X12_isHandle 2 24 [(0, .ref (gAd E (56))), (1, .int (a0))] [.int ((1 : Int32))] rfl ?_
        cases hr
        exact G.iret rfl rfl ⟨rfl, ⟨_, _, r0⟩, Fr.rf⟩ (tbd tv_X12_isHandle rfl)
def tb_X12_blocksOf : List (Nat × Instr × Nat) := [(0, .iconst 0, 1), (1, .istore_n 2, 1), (2, .iconst 0, 1), (3, .istore_n 3, 1), (4, .iload_n 3, 1), (5, .bipush 8, 2), (7, .if_icmp .ge 26, 3), (10, .aload_n 0, 1), (11, .iload_n 1, 1), (12, .iload_n 3, 1), (13, .invokevirtual 323, 3), (16, .ifCond .ne 7, 3), (19, .iload_n 2, 1), (20, .goto 6, 3), (23, .iload_n 2, 1), (24, .iconst 1, 1), (25, .iadd, 1), (26, .istore_n 2, 1), (27, .iinc 3 1, 3), (30, .goto (-26), 3), (33, .aload_n 0, 1), (34, .iload_n 1, 1), (35, .bipush 28, 2), (37, .iconst 2, 1), (38, .invokevirtual 303, 3), (41, .istore_n 3, 1), (42, .iload_n 3, 1), (43, .ifCond .ne 7, 3), (46, .iload_n 2, 1), (47, .goto 12, 3), (50, .iload_n 2, 1), (51, .iconst 1, 1), (52, .iadd, 1), (53, .aload_n 0, 1), (54, .iload_n 3, 1), (55, .invokevirtual 493, 3), (58, .iadd, 1), (59, .istore_n 2, 1), (60, .aload_n 0, 1), (61, .iload_n 1, 1), (62, .bipush 30, 2), (64, .iconst 2, 1), (65, .invokevirtual 303, 3), (68, .istore 4, 2), (70, .iload 4, 2), (72, .ifCond .ne 7, 3), (75, .iload_n 2, 1), (76, .goto 13, 3), (79, .iload_n 2, 1), (80, .iconst 1, 1), (81, .iadd, 1), (82, .aload_n 0, 1), (83, .iload 4, 2), (85, .invokevirtual 493, 3), (88, .iadd, 1), (89, .istore_n 2, 1), (90, .iconst 0, 1), (91, .istore 5, 2), (93, .iload 5, 2), (95, .bipush 64, 2), (97, .if_icmp .ge 45, 3), (100, .iload 4, 2), (102, .ifCond .eq 40, 3), (105, .aload_n 0, 1), (106, .iload 4, 2), (108, .iconst 2, 1), (109, .iload 5, 2), (111, .imul, 1), (112, .iconst 2, 1), (113, .invokevirtual 295, 3), (116, .istore 6, 2), (118, .iload 6, 2), (120, .ifCond .ne 7, 3), (123, .iload_n 2, 1), (124, .goto 11, 3), (127, .iload_n 2, 1), (128, .aload_n 0, 1), (129, .iload 6, 2), (131, .invokevirtual 493, 3), (134, .iadd, 1), (135, .istore_n 2, 1), (136, .iinc 5 1, 3), (139, .goto (-46), 3), (142, .iload_n 2, 1), (143, .ireturn, 1)]
theorem tv_X12_blocksOf : Tv cX12_blocksOf tb_X12_blocksOf := by
  unfold Tv
  decide +kernel
def tb_X12_told : List (Nat × Instr × Nat) := [(0, .aload_n 0, 1), (1, .iload_n 1, 1), (2, .iconst 1, 1), (3, .invokevirtual 236, 3), (6, .iconst 0, 1), (7, .istore_n 2, 1), (8, .iconst 0, 1), (9, .istore_n 3, 1), (10, .iload_n 3, 1), (11, .bipush 64, 2), (13, .if_icmp .ge 31, 3), (16, .aload_n 0, 1), (17, .getfield 86, 3), (20, .iconst 2, 1), (21, .iload_n 3, 1), (22, .imul, 1), (23, .iconst 2, 1), (24, .invokestatic 232, 3), (27, .ifCond .ne 7, 3), (30, .iload_n 2, 1), (31, .goto 6, 3), (34, .iload_n 2, 1), (35, .iconst 1, 1), (36, .iadd, 1), (37, .istore_n 2, 1), (38, .iinc 3 1, 3), (41, .goto (-31), 3), (44, .iload_n 2, 1), (45, .ireturn, 1)]
theorem tv_X12_told : Tv cX12_told tb_X12_told := by
  unfold Tv
  decide +kernel
theorem w_2418 : Cond.methodLink "LedgerFilesModel" 236 yX12_see ∈ TB := tp_10 112 (by decide +kernel) rfl
theorem w_2421 : Cond.code yX12_see prog_14_method_23_code 3 none ∈ TB := tp_10 115 rfl rfl
theorem cw_X12_236 : Cw RX12 236 yX12_see cX12_see 3 none 2 := ⟨w_2418, w_2421, w_161, by decide +kernel, by decide +kernel, by decide⟩
theorem w_2420 : Cond.instanceMethod yX12_see ∈ TB := tp_10 114 (by decide +kernel) rfl
theorem w_86 : Cond.selects "LedgerFilesModel" yX12_see yX12_see ∈ TB := tp_0 86 (by decide +kernel) rfl
def e_number_78_7 (R : RfT) : Nat → Int32 → Int32 → Int32 → Option (Int32)
  | 0, _, _, _ => none
  | n + 1, x1, x3, x4 => if x4 < 0 then some x3 else ld (rA R 43) 128 ((x1) + (x4)) (fun v89 => nm (((x3) <<< (((8 : Int32)) &&& 31)) ||| ((v89) &&& ((255 : Int32)))) (fun v90 => e_number_78_7 R n x1 v90 (x4 + (-1 : Int32))))
def e_number_78 (R : RfT) (a1 : Int32) (a2 : Int32) : Option (Int32) := e_number_78_7 R fuL a1 ((0 : Int32)) ((a2) - ((1 : Int32)))
set_option maxRecDepth 100000 in
set_option maxHeartbeats 4000000 in
theorem l_X12_number_78_7 (E : gE) (f0 : Nat → va_E) (sz : Nat) (QA : Nat → Prop) (hE : 94 ≤ gN E) (R : RfT) : ∀ (n : Nat), ∀ (x1 : Int32) (x3 : Int32) (x4 : Int32) (r : Int32) (hr : e_number_78_7 R n x1 x3 x4 = some r) (f : Nat → va_E) (w : RW E f R) (hf : Fr RfK f0 f), G E (1, yX12_number, 5, (some .int), sz, QA) cX12_number (gO E (1, yX12_number, 5, (some .int), sz, QA) (fun v g => v = some (.int r) ∧ RW E g R ∧ Fr RfK f0 g, fun _ _ => False)) 7 [(0, .ref (gAd E (78))), (1, .int (x1)), (3, .int (x3)), (4, .int (x4))] [] f := by
  intro n
  induction n with
  | zero =>
    intro x1 x3 x4 r hr f w hf
    cases hr
  | succ n ih =>
    intro x1 x3 x4 r hr f w hf
    obtain ⟨az, sy, r0⟩ := w
    unfold e_number_78_7 at hr
    refine G.go tv_X12_number 1 9 [(0, .ref (gAd E (78))), (1, .int (x1)), (3, .int (x3)), (4, .int (x4))] [.int (x4)] rfl ?_
    refine G.if_lt 34 (tbd tv_X12_number rfl) (by decide) (fun c9 => ?_) (fun c9 => ?_)
    · replace hr := ite_t c9 hr
      refine G.go tv_X12_number 1 35 [(0, .ref (gAd E (78))), (1, .int (x1)), (3, .int (x3)), (4, .int (x4))] [.int (x3)] rfl ?_
      cases hr
      exact G.iret rfl rfl ⟨rfl, ⟨_, _, r0⟩, hf⟩ (tbd tv_X12_number rfl)
    · replace hr := ite_f c9 hr
      refine G.go tv_X12_number 7 21 [(0, .ref (gAd E (78))), (1, .int (x1)), (3, .int (x3)), (4, .int (x4))] [.int ((x1) + (x4)), .ref (gAd E (78)), .int ((x3) <<< (((8 : Int32)) &&& 31))] rfl ?_
      obtain ⟨v89, b89, e89, hr⟩ := ld_s hr
      refine G.baldE (78) (by omega) (r0.a43) b89 e89 (tbd tv_X12_number rfl) ?_
      refine G.go tv_X12_number 4 28 [(0, .ref (gAd E (78))), (1, .int (x1)), (3, .int (((x3) <<< (((8 : Int32)) &&& 31)) ||| ((v89) &&& ((255 : Int32))))), (4, .int (x4))] [] rfl ?_
      obtain ⟨v90, e90, hr⟩ := nm_s hr
      refine G.eql [(0, .ref (gAd E (78))), (1, .int (x1)), (3, .int (v90)), (4, .int (x4))] (by rw [e90]) ?_
      refine G.go tv_X12_number 2 7 [(0, .ref (gAd E (78))), (1, .int (x1)), (3, .int (v90)), (4, .int (x4 + (-1 : Int32)))] [] rfl ?_
      refine G.less [(0, .ref (gAd E (78))), (1, .int (x1)), (3, .int (v90)), (4, .int (x4 + (-1 : Int32)))] [0, 1, 2, 3] rfl ?_
      exact ih _ _ _ _ hr _ ⟨_, _, r0⟩ hf
set_option maxRecDepth 100000 in
set_option maxHeartbeats 4000000 in
theorem k_X12_number_78 (E : gE) (f : Nat → va_E) (hE : 94 ≤ gN E) (R : RfT) (w : RW E f R) (a1 : Int32) (a2 : Int32) (r : Int32) (hr : e_number_78 R a1 a2 = some r) : Ct E 1 yX12_number cX12_number 5 (some .int) [.ref (gAd E (78)), .int (a1), .int (a2)] f (fun v g => v = some (.int r) ∧ RW E g R ∧ Fr RfK f g, fun _ _ => False) := by
  obtain ⟨az, sy, r0⟩ := w
  refine Ct.of (by decide) (Nat.le_of_ble_eq_true rfl) (fun sz => ?_)
  refine G.eql [(0, .ref (gAd E (78))), (1, .int (a1)), (2, .int (a2))] rfl ?_
  unfold e_number_78 at hr
  refine G.go tv_X12_number 6 7 [(0, .ref (gAd E (78))), (1, .int (a1)), (2, .int (a2)), (3, .int ((0 : Int32))), (4, .int ((a2) - ((1 : Int32))))] [] rfl ?_
  refine G.less [(0, .ref (gAd E (78))), (1, .int (a1)), (3, .int ((0 : Int32))), (4, .int ((a2) - ((1 : Int32))))] [0, 1, 3, 4] rfl ?_
  exact l_X12_number_78_7 E f sz _ hE R _ _ _ _ _ hr _ ⟨_, _, r0⟩ Fr.rf
def e_told_10  : Nat → RfT → Int32 → Int32 → Option (Int32 × RfT)
  | 0, _, _, _ => none
  | n + 1, R, x2, x3 => if ((64 : Int32)) ≤ x3 then some (x2, R) else bnd (e_number_78 R (((2 : Int32)) * (x3)) ((2 : Int32))) (fun v88 => if v88 = 0 then e_told_10  n R x2 (x3 + (1 : Int32)) else e_told_10  n R ((x2) + ((1 : Int32))) (x3 + (1 : Int32)))
def e_told  (R : RfT) (a0 : Int32) : Option (Int32 × RfT) := bnd (e_see R a0 ((1 : Int32))) (fun R87 => e_told_10  fuL R87 ((0 : Int32)) ((0 : Int32)))
set_option maxRecDepth 100000 in
set_option maxHeartbeats 4000000 in
theorem l_X12_told_10 (E : gE) (f0 : Nat → va_E) (sz : Nat) (QA : Nat → Prop) (hE : 94 ≤ gN E) : ∀ (n : Nat), ∀ (R : RfT) (x2 : Int32) (x3 : Int32) (r : Int32) (R9 : RfT) (hr : e_told_10  n R x2 x3 = some (r, R9)) (f : Nat → va_E) (w : RW E f R) (hf : Fr RfK f0 f), G E (3, yX12_told, 4, (some .int), sz, QA) cX12_told (gO E (3, yX12_told, 4, (some .int), sz, QA) (fun v g => v = some (.int r) ∧ RW E g R9 ∧ Fr RfK f0 g, fun _ _ => False)) 10 [(0, .ref (gAd E (56))), (2, .int (x2)), (3, .int (x3))] [] f := by
  intro n
  induction n with
  | zero =>
    intro R x2 x3 r R9 hr f w hf
    cases hr
  | succ n ih =>
    intro R x2 x3 r R9 hr f w hf
    obtain ⟨az, sy, r0⟩ := w
    unfold e_told_10 at hr
    refine G.go tv_X12_told 2 13 [(0, .ref (gAd E (56))), (2, .int (x2)), (3, .int (x3))] [.int ((64 : Int32)), .int (x3)] rfl ?_
    refine G.cmp_ge 44 (tbd tv_X12_told rfl) (by decide) (fun c13 => ?_) (fun c13 => ?_)
    · replace hr := ite_t c13 hr
      refine G.go tv_X12_told 1 45 [(0, .ref (gAd E (56))), (2, .int (x2)), (3, .int (x3))] [.int (x2)] rfl ?_
      cases hr
      exact G.iret rfl rfl ⟨rfl, ⟨_, _, r0⟩, hf⟩ (tbd tv_X12_told rfl)
    · replace hr := ite_f c13 hr
      refine G.go tv_X12_told 1 17 [(0, .ref (gAd E (56))), (2, .int (x2)), (3, .int (x3))] [.ref (gAd E (56))] rfl ?_
      refine G.rg r0 hE 43 (.ref (gAd E (78))) (by decide) rfl (tbd tv_X12_told rfl) w_2108 ?_
      refine G.go tv_X12_told 4 24 [(0, .ref (gAd E (56))), (2, .int (x2)), (3, .int (x3))] [.int ((2 : Int32)), .int (((2 : Int32)) * (x3)), .ref (gAd E (78))] rfl ?_
      obtain ⟨v88, hv88, hr⟩ := bnd_s hr
      refine G.callS [.ref (gAd E (78)), .int (((2 : Int32)) * (x3)), .int ((2 : Int32))] [] (k_X12_number_78 E _ hE R ⟨_, _, r0⟩ (((2 : Int32)) * (x3)) ((2 : Int32)) v88 hv88) cw_X12_232 w_2353 (Nat.le_of_ble_eq_true rfl) rfl (Nat.le_of_ble_eq_true rfl) (tbd tv_X12_told rfl) (fun v88w f88 q88 => ?_) (fun _ _ h => h.elim)
      obtain ⟨rfl, ⟨az88, sy88, r88⟩, fa88⟩ := q88
      refine G.eqs [.int (v88)] rfl ?_
      refine G.if_ne 34 (tbd tv_X12_told rfl) (by decide) (fun c27 => ?_) (fun c27 => ?_)
      · replace hr := ite_f c27 hr
        refine G.go tv_X12_told 6 10 [(0, .ref (gAd E (56))), (2, .int ((x2) + ((1 : Int32)))), (3, .int (x3 + (1 : Int32)))] [] rfl ?_
        refine G.less [(0, .ref (gAd E (56))), (2, .int ((x2) + ((1 : Int32)))), (3, .int (x3 + (1 : Int32)))] [0, 1, 2] rfl ?_
        exact ih _ _ _ _ _ hr _ ⟨_, _, r88⟩ (hf.tr fa88 (fun _ h => h))
      · replace hr := ite_t c27 hr
        refine G.go tv_X12_told 5 10 [(0, .ref (gAd E (56))), (2, .int (x2)), (3, .int (x3 + (1 : Int32)))] [] rfl ?_
        refine G.less [(0, .ref (gAd E (56))), (2, .int (x2)), (3, .int (x3 + (1 : Int32)))] [0, 1, 2] rfl ?_
        exact ih _ _ _ _ _ hr _ ⟨_, _, r88⟩ (hf.tr fa88 (fun _ h => h))
set_option maxRecDepth 100000 in
set_option maxHeartbeats 4000000 in
theorem k_X12_told (E : gE) (f : Nat → va_E) (hE : 94 ≤ gN E) (R : RfT) (w : RW E f R) (a0 : Int32) (r : Int32) (R9 : RfT) (hr : e_told R a0 = some (r, R9)) : Ct E 3 yX12_told cX12_told 4 (some .int) [.ref (gAd E (56)), .int (a0)] f (fun v g => v = some (.int r) ∧ RW E g R9 ∧ Fr RfK f g, fun _ _ => False) := by
  obtain ⟨az, sy, r0⟩ := w
  refine Ct.of (by decide) (Nat.le_of_ble_eq_true rfl) (fun sz => ?_)
  refine G.eql [(0, .ref (gAd E (56))), (1, .int (a0))] rfl ?_
  unfold e_told at hr
  refine G.go tv_X12_told 3 3 [(0, .ref (gAd E (56))), (1, .int (a0))] [.int ((1 : Int32)), .int (a0), .ref (gAd E (56))] rfl ?_
  obtain ⟨R87, hv87, hr⟩ := bnd_s hr
  refine G.callV (56) [.int (a0), .int ((1 : Int32))] [] (k_X12_see E _ hE R ⟨_, _, r0⟩ a0 ((1 : Int32)) R87 hv87) cls_X12 (by omega) (r0.o) cw_X12_236 w_2420 w_86 (Nat.le_of_ble_eq_true rfl) rfl (Nat.le_of_ble_eq_true rfl) (tbd tv_X12_told rfl) (fun v87w f87 q87 => ?_) (fun _ _ h => h.elim)
  obtain ⟨rfl, ⟨az87, sy87, r87⟩, fa87⟩ := q87
  refine G.eqs [] rfl ?_
  refine G.go tv_X12_told 4 10 [(0, .ref (gAd E (56))), (1, .int (a0)), (2, .int ((0 : Int32))), (3, .int ((0 : Int32)))] [] rfl ?_
  refine G.less [(0, .ref (gAd E (56))), (2, .int ((0 : Int32))), (3, .int ((0 : Int32)))] [0, 2, 3] rfl ?_
  exact l_X12_told_10 E f sz _ hE _ _ _ _ _ _ hr _ ⟨_, _, r87⟩ (Fr.rf.tr fa87 (fun _ h => h))
theorem w_2695 : Cond.methodLink "LedgerFilesModel" 493 yX12_told ∈ TB := tp_11 149 (by decide +kernel) rfl
theorem w_2698 : Cond.code yX12_told prog_14_method_114_code 4 (some .int) ∈ TB := tp_11 152 rfl rfl
theorem cw_X12_493 : Cw RX12 493 yX12_told cX12_told 4 (some .int) 1 := ⟨w_2695, w_2698, w_161, by decide +kernel, by decide +kernel, by decide⟩
theorem w_2697 : Cond.instanceMethod yX12_told ∈ TB := tp_11 151 (by decide +kernel) rfl
theorem w_137 : Cond.selects "LedgerFilesModel" yX12_told yX12_told ∈ TB := tp_0 137 (by decide +kernel) rfl
def e_blocksOf_93  : Nat → RfT → Int32 → Int32 → Int32 → Option (Int32 × RfT)
  | 0, _, _, _, _ => none
  | n + 1, R, x2, x4, x5 => if ((64 : Int32)) ≤ x5 then some (x2, R) else if x4 = 0 then some (x2, R) else bnd (e_seenNumber R x4 (((2 : Int32)) * (x5)) ((2 : Int32))) (fun v94 => if v94 = 0 then e_blocksOf_93  n R x2 x4 (x5 + (1 : Int32)) else bnd2 (e_told R v94) (fun v95 R95 => e_blocksOf_93  n R95 ((x2) + (v95)) x4 (x5 + (1 : Int32))))
def e_blocksOf_60  (R : RfT) (x1 : Int32) (x2 : Int32) : Option (Int32 × RfT) := bnd (e_field R x1 ((30 : Int32)) ((2 : Int32))) (fun v92 => if v92 = 0 then e_blocksOf_93  fuL R x2 v92 ((0 : Int32)) else bnd2 (e_told R v92) (fun v93 R93 => e_blocksOf_93  fuL R93 (((x2) + ((1 : Int32))) + (v93)) v92 ((0 : Int32))))
def e_blocksOf_4  : Nat → RfT → Int32 → Int32 → Int32 → Option (Int32 × RfT)
  | 0, _, _, _, _ => none
  | n + 1, R, x1, x2, x3 => if ((8 : Int32)) ≤ x3 then bnd (e_field R x1 ((28 : Int32)) ((2 : Int32))) (fun v85 => if v85 = 0 then e_blocksOf_60  R x1 x2 else bnd2 (e_told R v85) (fun v86 R86 => e_blocksOf_60  R86 x1 (((x2) + ((1 : Int32))) + (v86)))) else bnd (e_blockOf R x1 x3) (fun v91 => if v91 = 0 then e_blocksOf_4  n R x1 x2 (x3 + (1 : Int32)) else e_blocksOf_4  n R x1 ((x2) + ((1 : Int32))) (x3 + (1 : Int32)))
def e_blocksOf  (R : RfT) (a0 : Int32) : Option (Int32 × RfT) := e_blocksOf_4  fuL R a0 ((0 : Int32)) ((0 : Int32))
set_option maxRecDepth 100000 in
set_option maxHeartbeats 4000000 in
theorem l_X12_blocksOf_93 (E : gE) (f0 : Nat → va_E) (sz : Nat) (QA : Nat → Prop) (hE : 94 ≤ gN E) : ∀ (n : Nat), ∀ (R : RfT) (x2 : Int32) (x4 : Int32) (x5 : Int32) (r : Int32) (R9 : RfT) (hr : e_blocksOf_93  n R x2 x4 x5 = some (r, R9)) (f : Nat → va_E) (w : RW E f R) (hf : Fr RfK f0 f), G E (6, yX12_blocksOf, 7, (some .int), sz, QA) cX12_blocksOf (gO E (6, yX12_blocksOf, 7, (some .int), sz, QA) (fun v g => v = some (.int r) ∧ RW E g R9 ∧ Fr RfK f0 g, fun _ _ => False)) 93 [(0, .ref (gAd E (56))), (2, .int (x2)), (4, .int (x4)), (5, .int (x5))] [] f := by
  intro n
  induction n with
  | zero =>
    intro R x2 x4 x5 r R9 hr f w hf
    cases hr
  | succ n ih =>
    intro R x2 x4 x5 r R9 hr f w hf
    obtain ⟨az, sy, r0⟩ := w
    unfold e_blocksOf_93 at hr
    refine G.go tv_X12_blocksOf 2 97 [(0, .ref (gAd E (56))), (2, .int (x2)), (4, .int (x4)), (5, .int (x5))] [.int ((64 : Int32)), .int (x5)] rfl ?_
    refine G.cmp_ge 142 (tbd tv_X12_blocksOf rfl) (by decide) (fun c97 => ?_) (fun c97 => ?_)
    · replace hr := ite_t c97 hr
      refine G.go tv_X12_blocksOf 1 143 [(0, .ref (gAd E (56))), (2, .int (x2)), (4, .int (x4)), (5, .int (x5))] [.int (x2)] rfl ?_
      cases hr
      exact G.iret rfl rfl ⟨rfl, ⟨_, _, r0⟩, hf⟩ (tbd tv_X12_blocksOf rfl)
    · replace hr := ite_f c97 hr
      refine G.go tv_X12_blocksOf 1 102 [(0, .ref (gAd E (56))), (2, .int (x2)), (4, .int (x4)), (5, .int (x5))] [.int (x4)] rfl ?_
      refine G.if_eq 142 (tbd tv_X12_blocksOf rfl) (by decide) (fun c102 => ?_) (fun c102 => ?_)
      · replace hr := ite_t c102 hr
        refine G.go tv_X12_blocksOf 1 143 [(0, .ref (gAd E (56))), (2, .int (x2)), (4, .int (x4)), (5, .int (x5))] [.int (x2)] rfl ?_
        cases hr
        exact G.iret rfl rfl ⟨rfl, ⟨_, _, r0⟩, hf⟩ (tbd tv_X12_blocksOf rfl)
      · replace hr := ite_f c102 hr
        refine G.go tv_X12_blocksOf 6 113 [(0, .ref (gAd E (56))), (2, .int (x2)), (4, .int (x4)), (5, .int (x5))] [.int ((2 : Int32)), .int (((2 : Int32)) * (x5)), .int (x4), .ref (gAd E (56))] rfl ?_
        obtain ⟨v94, hv94, hr⟩ := bnd_s hr
        refine G.callV (56) [.int (x4), .int (((2 : Int32)) * (x5)), .int ((2 : Int32))] [] (k_X12_seenNumber E _ hE R ⟨_, _, r0⟩ x4 (((2 : Int32)) * (x5)) ((2 : Int32)) v94 hv94) cls_X12 (by omega) (r0.o) cw_X12_295 w_2380 w_76 (Nat.le_of_ble_eq_true rfl) rfl (Nat.le_of_ble_eq_true rfl) (tbd tv_X12_blocksOf rfl) (fun v94w f94 q94 => ?_) (fun _ _ h => h.elim)
        obtain ⟨rfl, ⟨az94, sy94, r94⟩, fa94⟩ := q94
        refine G.eqs [.int (v94)] rfl ?_
        refine G.go tv_X12_blocksOf 2 120 [(0, .ref (gAd E (56))), (2, .int (x2)), (4, .int (x4)), (5, .int (x5)), (6, .int (v94))] [.int (v94)] rfl ?_
        refine G.if_ne 127 (tbd tv_X12_blocksOf rfl) (by decide) (fun c120 => ?_) (fun c120 => ?_)
        · replace hr := ite_f c120 hr
          refine G.go tv_X12_blocksOf 3 131 [(0, .ref (gAd E (56))), (2, .int (x2)), (4, .int (x4)), (5, .int (x5)), (6, .int (v94))] [.int (v94), .ref (gAd E (56)), .int (x2)] rfl ?_
          obtain ⟨v95, R95, hv95, hr⟩ := bnd2_s hr
          refine G.callV (56) [.int (v94)] [.int (x2)] (k_X12_told E _ hE R ⟨_, _, r94⟩ v94 v95 R95 hv95) cls_X12 (by omega) (r94.o) cw_X12_493 w_2697 w_137 (Nat.le_of_ble_eq_true rfl) rfl (Nat.le_of_ble_eq_true rfl) (tbd tv_X12_blocksOf rfl) (fun v95w f95 q95 => ?_) (fun _ _ h => h.elim)
          obtain ⟨rfl, ⟨az95, sy95, r95⟩, fa95⟩ := q95
          refine G.eqs [.int (v95), .int (x2)] rfl ?_
          refine G.go tv_X12_blocksOf 4 93 [(0, .ref (gAd E (56))), (2, .int ((x2) + (v95))), (4, .int (x4)), (5, .int (x5 + (1 : Int32))), (6, .int (v94))] [] rfl ?_
          refine G.less [(0, .ref (gAd E (56))), (2, .int ((x2) + (v95))), (4, .int (x4)), (5, .int (x5 + (1 : Int32)))] [0, 1, 2, 3] rfl ?_
          exact ih _ _ _ _ _ _ hr _ ⟨_, _, r95⟩ ((hf.tr fa94 (fun _ h => h)).tr fa95 (fun _ h => h))
        · replace hr := ite_t c120 hr
          refine G.go tv_X12_blocksOf 5 93 [(0, .ref (gAd E (56))), (2, .int (x2)), (4, .int (x4)), (5, .int (x5 + (1 : Int32))), (6, .int (v94))] [] rfl ?_
          refine G.less [(0, .ref (gAd E (56))), (2, .int (x2)), (4, .int (x4)), (5, .int (x5 + (1 : Int32)))] [0, 1, 2, 3] rfl ?_
          exact ih _ _ _ _ _ _ hr _ ⟨_, _, r94⟩ (hf.tr fa94 (fun _ h => h))
set_option maxRecDepth 100000 in
set_option maxHeartbeats 4000000 in
theorem l_X12_blocksOf_60 (E : gE) (f0 : Nat → va_E) (sz : Nat) (QA : Nat → Prop) (hE : 94 ≤ gN E) : ∀ (R : RfT) (x1 : Int32) (x2 : Int32) (r : Int32) (R9 : RfT) (hr : e_blocksOf_60  R x1 x2 = some (r, R9)) (f : Nat → va_E) (w : RW E f R) (hf : Fr RfK f0 f), G E (6, yX12_blocksOf, 7, (some .int), sz, QA) cX12_blocksOf (gO E (6, yX12_blocksOf, 7, (some .int), sz, QA) (fun v g => v = some (.int r) ∧ RW E g R9 ∧ Fr RfK f0 g, fun _ _ => False)) 60 [(0, .ref (gAd E (56))), (1, .int (x1)), (2, .int (x2))] [] f := by
  intro R x1 x2 r R9 hr f w hf
  obtain ⟨az, sy, r0⟩ := w
  unfold e_blocksOf_60 at hr
  refine G.go tv_X12_blocksOf 4 65 [(0, .ref (gAd E (56))), (1, .int (x1)), (2, .int (x2))] [.int ((2 : Int32)), .int ((30 : Int32)), .int (x1), .ref (gAd E (56))] rfl ?_
  obtain ⟨v92, hv92, hr⟩ := bnd_s hr
  refine G.callV (56) [.int (x1), .int ((30 : Int32)), .int ((2 : Int32))] [] (k_X12_field E _ hE R ⟨_, _, r0⟩ x1 ((30 : Int32)) ((2 : Int32)) v92 hv92) cls_X12 (by omega) (r0.o) cw_X12_303 w_2373 w_75 (Nat.le_of_ble_eq_true rfl) rfl (Nat.le_of_ble_eq_true rfl) (tbd tv_X12_blocksOf rfl) (fun v92w f92 q92 => ?_) (fun _ _ h => h.elim)
  obtain ⟨rfl, ⟨az92, sy92, r92⟩, fa92⟩ := q92
  refine G.eqs [.int (v92)] rfl ?_
  refine G.go tv_X12_blocksOf 2 72 [(0, .ref (gAd E (56))), (1, .int (x1)), (2, .int (x2)), (4, .int (v92))] [.int (v92)] rfl ?_
  refine G.if_ne 79 (tbd tv_X12_blocksOf rfl) (by decide) (fun c72 => ?_) (fun c72 => ?_)
  · replace hr := ite_f c72 hr
    refine G.go tv_X12_blocksOf 5 85 [(0, .ref (gAd E (56))), (1, .int (x1)), (2, .int (x2)), (4, .int (v92))] [.int (v92), .ref (gAd E (56)), .int ((x2) + ((1 : Int32)))] rfl ?_
    obtain ⟨v93, R93, hv93, hr⟩ := bnd2_s hr
    refine G.callV (56) [.int (v92)] [.int ((x2) + ((1 : Int32)))] (k_X12_told E _ hE R ⟨_, _, r92⟩ v92 v93 R93 hv93) cls_X12 (by omega) (r92.o) cw_X12_493 w_2697 w_137 (Nat.le_of_ble_eq_true rfl) rfl (Nat.le_of_ble_eq_true rfl) (tbd tv_X12_blocksOf rfl) (fun v93w f93 q93 => ?_) (fun _ _ h => h.elim)
    obtain ⟨rfl, ⟨az93, sy93, r93⟩, fa93⟩ := q93
    refine G.eqs [.int (v93), .int ((x2) + ((1 : Int32)))] rfl ?_
    refine G.go tv_X12_blocksOf 4 93 [(0, .ref (gAd E (56))), (1, .int (x1)), (2, .int (((x2) + ((1 : Int32))) + (v93))), (4, .int (v92)), (5, .int ((0 : Int32)))] [] rfl ?_
    refine G.less [(0, .ref (gAd E (56))), (2, .int (((x2) + ((1 : Int32))) + (v93))), (4, .int (v92)), (5, .int ((0 : Int32)))] [0, 2, 3, 4] rfl ?_
    exact l_X12_blocksOf_93 E f0 sz QA hE _ _ _ _ _ _ _ hr _ ⟨_, _, r93⟩ ((hf.tr fa92 (fun _ h => h)).tr fa93 (fun _ h => h))
  · replace hr := ite_t c72 hr
    refine G.go tv_X12_blocksOf 5 93 [(0, .ref (gAd E (56))), (1, .int (x1)), (2, .int (x2)), (4, .int (v92)), (5, .int ((0 : Int32)))] [] rfl ?_
    refine G.less [(0, .ref (gAd E (56))), (2, .int (x2)), (4, .int (v92)), (5, .int ((0 : Int32)))] [0, 2, 3, 4] rfl ?_
    exact l_X12_blocksOf_93 E f0 sz QA hE _ _ _ _ _ _ _ hr _ ⟨_, _, r92⟩ (hf.tr fa92 (fun _ h => h))
set_option maxRecDepth 100000 in
set_option maxHeartbeats 4000000 in
theorem l_X12_blocksOf_4 (E : gE) (f0 : Nat → va_E) (sz : Nat) (QA : Nat → Prop) (hE : 94 ≤ gN E) : ∀ (n : Nat), ∀ (R : RfT) (x1 : Int32) (x2 : Int32) (x3 : Int32) (r : Int32) (R9 : RfT) (hr : e_blocksOf_4  n R x1 x2 x3 = some (r, R9)) (f : Nat → va_E) (w : RW E f R) (hf : Fr RfK f0 f), G E (6, yX12_blocksOf, 7, (some .int), sz, QA) cX12_blocksOf (gO E (6, yX12_blocksOf, 7, (some .int), sz, QA) (fun v g => v = some (.int r) ∧ RW E g R9 ∧ Fr RfK f0 g, fun _ _ => False)) 4 [(0, .ref (gAd E (56))), (1, .int (x1)), (2, .int (x2)), (3, .int (x3))] [] f := by
  intro n
  induction n with
  | zero =>
    intro R x1 x2 x3 r R9 hr f w hf
    cases hr
  | succ n ih =>
    intro R x1 x2 x3 r R9 hr f w hf
    obtain ⟨az, sy, r0⟩ := w
    unfold e_blocksOf_4 at hr
    refine G.go tv_X12_blocksOf 2 7 [(0, .ref (gAd E (56))), (1, .int (x1)), (2, .int (x2)), (3, .int (x3))] [.int ((8 : Int32)), .int (x3)] rfl ?_
    refine G.cmp_ge 33 (tbd tv_X12_blocksOf rfl) (by decide) (fun c7 => ?_) (fun c7 => ?_)
    · replace hr := ite_t c7 hr
      refine G.go tv_X12_blocksOf 4 38 [(0, .ref (gAd E (56))), (1, .int (x1)), (2, .int (x2)), (3, .int (x3))] [.int ((2 : Int32)), .int ((28 : Int32)), .int (x1), .ref (gAd E (56))] rfl ?_
      obtain ⟨v85, hv85, hr⟩ := bnd_s hr
      refine G.callV (56) [.int (x1), .int ((28 : Int32)), .int ((2 : Int32))] [] (k_X12_field E _ hE R ⟨_, _, r0⟩ x1 ((28 : Int32)) ((2 : Int32)) v85 hv85) cls_X12 (by omega) (r0.o) cw_X12_303 w_2373 w_75 (Nat.le_of_ble_eq_true rfl) rfl (Nat.le_of_ble_eq_true rfl) (tbd tv_X12_blocksOf rfl) (fun v85w f85 q85 => ?_) (fun _ _ h => h.elim)
      obtain ⟨rfl, ⟨az85, sy85, r85⟩, fa85⟩ := q85
      refine G.eqs [.int (v85)] rfl ?_
      refine G.go tv_X12_blocksOf 2 43 [(0, .ref (gAd E (56))), (1, .int (x1)), (2, .int (x2)), (3, .int (v85))] [.int (v85)] rfl ?_
      refine G.if_ne 50 (tbd tv_X12_blocksOf rfl) (by decide) (fun c43 => ?_) (fun c43 => ?_)
      · replace hr := ite_f c43 hr
        refine G.go tv_X12_blocksOf 5 55 [(0, .ref (gAd E (56))), (1, .int (x1)), (2, .int (x2)), (3, .int (v85))] [.int (v85), .ref (gAd E (56)), .int ((x2) + ((1 : Int32)))] rfl ?_
        obtain ⟨v86, R86, hv86, hr⟩ := bnd2_s hr
        refine G.callV (56) [.int (v85)] [.int ((x2) + ((1 : Int32)))] (k_X12_told E _ hE R ⟨_, _, r85⟩ v85 v86 R86 hv86) cls_X12 (by omega) (r85.o) cw_X12_493 w_2697 w_137 (Nat.le_of_ble_eq_true rfl) rfl (Nat.le_of_ble_eq_true rfl) (tbd tv_X12_blocksOf rfl) (fun v86w f86 q86 => ?_) (fun _ _ h => h.elim)
        obtain ⟨rfl, ⟨az86, sy86, r86⟩, fa86⟩ := q86
        refine G.eqs [.int (v86), .int ((x2) + ((1 : Int32)))] rfl ?_
        refine G.go tv_X12_blocksOf 2 60 [(0, .ref (gAd E (56))), (1, .int (x1)), (2, .int (((x2) + ((1 : Int32))) + (v86))), (3, .int (v85))] [] rfl ?_
        refine G.less [(0, .ref (gAd E (56))), (1, .int (x1)), (2, .int (((x2) + ((1 : Int32))) + (v86)))] [0, 1, 2] rfl ?_
        exact l_X12_blocksOf_60 E f0 sz QA hE _ _ _ _ _ hr _ ⟨_, _, r86⟩ ((hf.tr fa85 (fun _ h => h)).tr fa86 (fun _ h => h))
      · replace hr := ite_t c43 hr
        refine G.go tv_X12_blocksOf 3 60 [(0, .ref (gAd E (56))), (1, .int (x1)), (2, .int (x2)), (3, .int (v85))] [] rfl ?_
        refine G.less [(0, .ref (gAd E (56))), (1, .int (x1)), (2, .int (x2))] [0, 1, 2] rfl ?_
        exact l_X12_blocksOf_60 E f0 sz QA hE _ _ _ _ _ hr _ ⟨_, _, r85⟩ (hf.tr fa85 (fun _ h => h))
    · replace hr := ite_f c7 hr
      refine G.go tv_X12_blocksOf 3 13 [(0, .ref (gAd E (56))), (1, .int (x1)), (2, .int (x2)), (3, .int (x3))] [.int (x3), .int (x1), .ref (gAd E (56))] rfl ?_
      obtain ⟨v91, hv91, hr⟩ := bnd_s hr
      refine G.callV (56) [.int (x1), .int (x3)] [] (k_X12_blockOf E _ hE R ⟨_, _, r0⟩ x1 x3 v91 hv91) cls_X12 (by omega) (r0.o) cw_X12_323 w_2507 w_105 (Nat.le_of_ble_eq_true rfl) rfl (Nat.le_of_ble_eq_true rfl) (tbd tv_X12_blocksOf rfl) (fun v91w f91 q91 => ?_) (fun _ _ h => h.elim)
      obtain ⟨rfl, ⟨az91, sy91, r91⟩, fa91⟩ := q91
      refine G.eqs [.int (v91)] rfl ?_
      refine G.if_ne 23 (tbd tv_X12_blocksOf rfl) (by decide) (fun c16 => ?_) (fun c16 => ?_)
      · replace hr := ite_f c16 hr
        refine G.go tv_X12_blocksOf 6 4 [(0, .ref (gAd E (56))), (1, .int (x1)), (2, .int ((x2) + ((1 : Int32)))), (3, .int (x3 + (1 : Int32)))] [] rfl ?_
        refine G.less [(0, .ref (gAd E (56))), (1, .int (x1)), (2, .int ((x2) + ((1 : Int32)))), (3, .int (x3 + (1 : Int32)))] [0, 1, 2, 3] rfl ?_
        exact ih _ _ _ _ _ _ hr _ ⟨_, _, r91⟩ (hf.tr fa91 (fun _ h => h))
      · replace hr := ite_t c16 hr
        refine G.go tv_X12_blocksOf 5 4 [(0, .ref (gAd E (56))), (1, .int (x1)), (2, .int (x2)), (3, .int (x3 + (1 : Int32)))] [] rfl ?_
        refine G.less [(0, .ref (gAd E (56))), (1, .int (x1)), (2, .int (x2)), (3, .int (x3 + (1 : Int32)))] [0, 1, 2, 3] rfl ?_
        exact ih _ _ _ _ _ _ hr _ ⟨_, _, r91⟩ (hf.tr fa91 (fun _ h => h))
set_option maxRecDepth 100000 in
set_option maxHeartbeats 4000000 in
theorem k_X12_blocksOf (E : gE) (f : Nat → va_E) (hE : 94 ≤ gN E) (R : RfT) (w : RW E f R) (a0 : Int32) (r : Int32) (R9 : RfT) (hr : e_blocksOf R a0 = some (r, R9)) : Ct E 6 yX12_blocksOf cX12_blocksOf 7 (some .int) [.ref (gAd E (56)), .int (a0)] f (fun v g => v = some (.int r) ∧ RW E g R9 ∧ Fr RfK f g, fun _ _ => False) := by
  obtain ⟨az, sy, r0⟩ := w
  refine Ct.of (by decide) (Nat.le_of_ble_eq_true rfl) (fun sz => ?_)
  refine G.eql [(0, .ref (gAd E (56))), (1, .int (a0))] rfl ?_
  unfold e_blocksOf at hr
  refine G.go tv_X12_blocksOf 4 4 [(0, .ref (gAd E (56))), (1, .int (a0)), (2, .int ((0 : Int32))), (3, .int ((0 : Int32)))] [] rfl ?_
  refine G.less [(0, .ref (gAd E (56))), (1, .int (a0)), (2, .int ((0 : Int32))), (3, .int ((0 : Int32)))] [0, 1, 2, 3] rfl ?_
  exact l_X12_blocksOf_4 E f sz _ hE _ _ _ _ _ _ _ hr _ ⟨_, _, r0⟩ Fr.rf
def tb_X12_slotOfName : List (Nat × Instr × Nat) := [(0, .aload_n 0, 1), (1, .iload_n 1, 1), (2, .invokevirtual 326, 3), (5, .iconst 2, 1), (6, .if_icmp .ne 7, 3), (9, .iload_n 2, 1), (10, .ifCond .ge 5, 3), (13, .iconst (-1), 1), (14, .ireturn, 1), (15, .aload_n 0, 1), (16, .iload_n 1, 1), (17, .invokevirtual 344, 3), (20, .bipush 16, 2), (22, .idiv, 1), (23, .istore_n 3, 1), (24, .iconst 0, 1), (25, .istore 4, 2), (27, .iconst 0, 1), (28, .istore 5, 2), (30, .iload 5, 2), (32, .iload_n 3, 1), (33, .if_icmp .ge 33, 3), (36, .aload_n 0, 1), (37, .iload_n 1, 1), (38, .iload 5, 2), (40, .iconst 0, 1), (41, .iconst 2, 1), (42, .invokevirtual 347, 3), (45, .ifCond .eq 15, 3), (48, .iload 4, 2), (50, .iload_n 2, 1), (51, .if_icmp .ne 6, 3), (54, .iload 5, 2), (56, .ireturn, 1), (57, .iinc 4 1, 3), (60, .iinc 5 1, 3), (63, .goto (-33), 3), (66, .iconst (-1), 1), (67, .ireturn, 1)]
theorem tv_X12_slotOfName : Tv cX12_slotOfName tb_X12_slotOfName := by
  unfold Tv
  decide +kernel
def e_slotOfName_30 (R : RfT) : Nat → Int32 → Int32 → Int32 → Int32 → Int32 → Option (Int32)
  | 0, _, _, _, _, _ => none
  | n + 1, x1, x2, x3, x4, x5 => if x3 ≤ x5 then some ((-1 : Int32)) else bnd (e_slotNumber R x1 x5 ((0 : Int32)) ((2 : Int32))) (fun v98 => if v98 = 0 then e_slotOfName_30 R n x1 x2 x3 x4 (x5 + (1 : Int32)) else if x4 = x2 then some x5 else e_slotOfName_30 R n x1 x2 x3 (x4 + (1 : Int32)) (x5 + (1 : Int32)))
def e_slotOfName (R : RfT) (a0 : Int32) (a1 : Int32) : Option (Int32) := bnd (e_kind R a0) (fun v96 => if v96 = ((2 : Int32)) then if 0 ≤ a1 then bnd (e_size R a0) (fun v97 => e_slotOfName_30 R fuL a0 a1 ((v97) / ((16 : Int32))) ((0 : Int32)) ((0 : Int32))) else some ((-1 : Int32)) else some ((-1 : Int32)))
set_option maxRecDepth 100000 in
set_option maxHeartbeats 4000000 in
theorem l_X12_slotOfName_30 (E : gE) (f0 : Nat → va_E) (sz : Nat) (QA : Nat → Prop) (hE : 94 ≤ gN E) (R : RfT) : ∀ (n : Nat), ∀ (x1 : Int32) (x2 : Int32) (x3 : Int32) (x4 : Int32) (x5 : Int32) (r : Int32) (hr : e_slotOfName_30 R n x1 x2 x3 x4 x5 = some r) (f : Nat → va_E) (w : RW E f R) (hf : Fr RfK f0 f), G E (7, yX12_slotOfName, 6, (some .int), sz, QA) cX12_slotOfName (gO E (7, yX12_slotOfName, 6, (some .int), sz, QA) (fun v g => v = some (.int r) ∧ RW E g R ∧ Fr RfK f0 g, fun _ _ => False)) 30 [(0, .ref (gAd E (56))), (1, .int (x1)), (2, .int (x2)), (3, .int (x3)), (4, .int (x4)), (5, .int (x5))] [] f := by
  intro n
  induction n with
  | zero =>
    intro x1 x2 x3 x4 x5 r hr f w hf
    cases hr
  | succ n ih =>
    intro x1 x2 x3 x4 x5 r hr f w hf
    obtain ⟨az, sy, r0⟩ := w
    unfold e_slotOfName_30 at hr
    refine G.go tv_X12_slotOfName 2 33 [(0, .ref (gAd E (56))), (1, .int (x1)), (2, .int (x2)), (3, .int (x3)), (4, .int (x4)), (5, .int (x5))] [.int (x3), .int (x5)] rfl ?_
    refine G.cmp_ge 66 (tbd tv_X12_slotOfName rfl) (by decide) (fun c33 => ?_) (fun c33 => ?_)
    · replace hr := ite_t c33 hr
      refine G.go tv_X12_slotOfName 1 67 [(0, .ref (gAd E (56))), (1, .int (x1)), (2, .int (x2)), (3, .int (x3)), (4, .int (x4)), (5, .int (x5))] [.int ((-1 : Int32))] rfl ?_
      cases hr
      exact G.iret rfl rfl ⟨rfl, ⟨_, _, r0⟩, hf⟩ (tbd tv_X12_slotOfName rfl)
    · replace hr := ite_f c33 hr
      refine G.go tv_X12_slotOfName 5 42 [(0, .ref (gAd E (56))), (1, .int (x1)), (2, .int (x2)), (3, .int (x3)), (4, .int (x4)), (5, .int (x5))] [.int ((2 : Int32)), .int ((0 : Int32)), .int (x5), .int (x1), .ref (gAd E (56))] rfl ?_
      obtain ⟨v98, hv98, hr⟩ := bnd_s hr
      refine G.callV (56) [.int (x1), .int (x5), .int ((0 : Int32)), .int ((2 : Int32))] [] (k_X12_slotNumber E _ hE R ⟨_, _, r0⟩ x1 x5 ((0 : Int32)) ((2 : Int32)) v98 hv98) cls_X12 (by omega) (r0.o) cw_X12_347 w_2515 w_107 (Nat.le_of_ble_eq_true rfl) rfl (Nat.le_of_ble_eq_true rfl) (tbd tv_X12_slotOfName rfl) (fun v98w f98 q98 => ?_) (fun _ _ h => h.elim)
      obtain ⟨rfl, ⟨az98, sy98, r98⟩, fa98⟩ := q98
      refine G.eqs [.int (v98)] rfl ?_
      refine G.if_eq 60 (tbd tv_X12_slotOfName rfl) (by decide) (fun c45 => ?_) (fun c45 => ?_)
      · replace hr := ite_t c45 hr
        refine G.go tv_X12_slotOfName 2 30 [(0, .ref (gAd E (56))), (1, .int (x1)), (2, .int (x2)), (3, .int (x3)), (4, .int (x4)), (5, .int (x5 + (1 : Int32)))] [] rfl ?_
        refine G.less [(0, .ref (gAd E (56))), (1, .int (x1)), (2, .int (x2)), (3, .int (x3)), (4, .int (x4)), (5, .int (x5 + (1 : Int32)))] [0, 1, 2, 3, 4, 5] rfl ?_
        exact ih _ _ _ _ _ _ hr _ ⟨_, _, r98⟩ (hf.tr fa98 (fun _ h => h))
      · replace hr := ite_f c45 hr
        refine G.go tv_X12_slotOfName 2 51 [(0, .ref (gAd E (56))), (1, .int (x1)), (2, .int (x2)), (3, .int (x3)), (4, .int (x4)), (5, .int (x5))] [.int (x2), .int (x4)] rfl ?_
        refine G.cmp_ne 57 (tbd tv_X12_slotOfName rfl) (by decide) (fun c51 => ?_) (fun c51 => ?_)
        · replace hr := ite_f c51 hr
          refine G.go tv_X12_slotOfName 3 30 [(0, .ref (gAd E (56))), (1, .int (x1)), (2, .int (x2)), (3, .int (x3)), (4, .int (x4 + (1 : Int32))), (5, .int (x5 + (1 : Int32)))] [] rfl ?_
          refine G.less [(0, .ref (gAd E (56))), (1, .int (x1)), (2, .int (x2)), (3, .int (x3)), (4, .int (x4 + (1 : Int32))), (5, .int (x5 + (1 : Int32)))] [0, 1, 2, 3, 4, 5] rfl ?_
          exact ih _ _ _ _ _ _ hr _ ⟨_, _, r98⟩ (hf.tr fa98 (fun _ h => h))
        · replace hr := ite_t c51 hr
          refine G.go tv_X12_slotOfName 1 56 [(0, .ref (gAd E (56))), (1, .int (x1)), (2, .int (x2)), (3, .int (x3)), (4, .int (x4)), (5, .int (x5))] [.int (x5)] rfl ?_
          cases hr
          exact G.iret rfl rfl ⟨rfl, ⟨_, _, r98⟩, (hf.tr fa98 (fun _ h => h))⟩ (tbd tv_X12_slotOfName rfl)
set_option maxRecDepth 100000 in
set_option maxHeartbeats 4000000 in
theorem k_X12_slotOfName (E : gE) (f : Nat → va_E) (hE : 94 ≤ gN E) (R : RfT) (w : RW E f R) (a0 : Int32) (a1 : Int32) (r : Int32) (hr : e_slotOfName R a0 a1 = some r) : Ct E 7 yX12_slotOfName cX12_slotOfName 6 (some .int) [.ref (gAd E (56)), .int (a0), .int (a1)] f (fun v g => v = some (.int r) ∧ RW E g R ∧ Fr RfK f g, fun _ _ => False) := by
  obtain ⟨az, sy, r0⟩ := w
  refine Ct.of (by decide) (Nat.le_of_ble_eq_true rfl) (fun sz => ?_)
  refine G.eql [(0, .ref (gAd E (56))), (1, .int (a0)), (2, .int (a1))] rfl ?_
  unfold e_slotOfName at hr
  refine G.go tv_X12_slotOfName 2 2 [(0, .ref (gAd E (56))), (1, .int (a0)), (2, .int (a1))] [.int (a0), .ref (gAd E (56))] rfl ?_
  obtain ⟨v96, hv96, hr⟩ := bnd_s hr
  refine G.callV (56) [.int (a0)] [] (k_X12_kind E _ hE R ⟨_, _, r0⟩ a0 v96 hv96) cls_X12 (by omega) (r0.o) cw_X12_326 w_2369 w_74 (Nat.le_of_ble_eq_true rfl) rfl (Nat.le_of_ble_eq_true rfl) (tbd tv_X12_slotOfName rfl) (fun v96w f96 q96 => ?_) (fun _ _ h => h.elim)
  obtain ⟨rfl, ⟨az96, sy96, r96⟩, fa96⟩ := q96
  refine G.eqs [.int (v96)] rfl ?_
  refine G.go tv_X12_slotOfName 1 6 [(0, .ref (gAd E (56))), (1, .int (a0)), (2, .int (a1))] [.int ((2 : Int32)), .int (v96)] rfl ?_
  refine G.cmp_ne 13 (tbd tv_X12_slotOfName rfl) (by decide) (fun c6 => ?_) (fun c6 => ?_)
  · replace hr := ite_f c6 hr
    refine G.go tv_X12_slotOfName 1 14 [(0, .ref (gAd E (56))), (1, .int (a0)), (2, .int (a1))] [.int ((-1 : Int32))] rfl ?_
    cases hr
    exact G.iret rfl rfl ⟨rfl, ⟨_, _, r96⟩, (Fr.rf.tr fa96 (fun _ h => h))⟩ (tbd tv_X12_slotOfName rfl)
  · replace hr := ite_t c6 hr
    refine G.go tv_X12_slotOfName 1 10 [(0, .ref (gAd E (56))), (1, .int (a0)), (2, .int (a1))] [.int (a1)] rfl ?_
    refine G.if_ge 15 (tbd tv_X12_slotOfName rfl) (by decide) (fun c10 => ?_) (fun c10 => ?_)
    · replace hr := ite_t c10 hr
      refine G.go tv_X12_slotOfName 2 17 [(0, .ref (gAd E (56))), (1, .int (a0)), (2, .int (a1))] [.int (a0), .ref (gAd E (56))] rfl ?_
      obtain ⟨v97, hv97, hr⟩ := bnd_s hr
      refine G.callV (56) [.int (a0)] [] (k_X12_size E _ hE R ⟨_, _, r96⟩ a0 v97 hv97) cls_X12 (by omega) (r96.o) cw_X12_344 w_2503 w_104 (Nat.le_of_ble_eq_true rfl) rfl (Nat.le_of_ble_eq_true rfl) (tbd tv_X12_slotOfName rfl) (fun v97w f97 q97 => ?_) (fun _ _ h => h.elim)
      obtain ⟨rfl, ⟨az97, sy97, r97⟩, fa97⟩ := q97
      refine G.eqs [.int (v97)] rfl ?_
      refine G.go tv_X12_slotOfName 1 22 [(0, .ref (gAd E (56))), (1, .int (a0)), (2, .int (a1))] [.int ((16 : Int32)), .int (v97)] rfl ?_
      refine G.idiv (by decide) (tbd tv_X12_slotOfName rfl) ?_
      refine G.go tv_X12_slotOfName 5 30 [(0, .ref (gAd E (56))), (1, .int (a0)), (2, .int (a1)), (3, .int ((v97) / ((16 : Int32)))), (4, .int ((0 : Int32))), (5, .int ((0 : Int32)))] [] rfl ?_
      refine G.less [(0, .ref (gAd E (56))), (1, .int (a0)), (2, .int (a1)), (3, .int ((v97) / ((16 : Int32)))), (4, .int ((0 : Int32))), (5, .int ((0 : Int32)))] [0, 1, 2, 3, 4, 5] rfl ?_
      exact l_X12_slotOfName_30 E f sz _ hE R _ _ _ _ _ _ _ hr _ ⟨_, _, r97⟩ ((Fr.rf.tr fa96 (fun _ h => h)).tr fa97 (fun _ h => h))
    · replace hr := ite_f c10 hr
      refine G.go tv_X12_slotOfName 1 14 [(0, .ref (gAd E (56))), (1, .int (a0)), (2, .int (a1))] [.int ((-1 : Int32))] rfl ?_
      cases hr
      exact G.iret rfl rfl ⟨rfl, ⟨_, _, r96⟩, (Fr.rf.tr fa96 (fun _ h => h))⟩ (tbd tv_X12_slotOfName rfl)
def tb_X12_isLetter : List (Nat × Instr × Nat) := [(0, .iload_n 0, 1), (1, .bipush 97, 2), (3, .if_icmp .lt 9, 3), (6, .iload_n 0, 1), (7, .bipush 122, 2), (9, .if_icmp .le 45, 3), (12, .iload_n 0, 1), (13, .bipush 65, 2), (15, .if_icmp .lt 9, 3), (18, .iload_n 0, 1), (19, .bipush 90, 2), (21, .if_icmp .le 33, 3), (24, .iload_n 0, 1), (25, .bipush 48, 2), (27, .if_icmp .lt 9, 3), (30, .iload_n 0, 1), (31, .bipush 57, 2), (33, .if_icmp .le 21, 3), (36, .iload_n 0, 1), (37, .bipush 46, 2), (39, .if_icmp .eq 15, 3), (42, .iload_n 0, 1), (43, .bipush 95, 2), (45, .if_icmp .eq 9, 3), (48, .iload_n 0, 1), (49, .bipush 45, 2), (51, .if_icmp .ne 7, 3), (54, .iconst 1, 1), (55, .goto 4, 3), (58, .iconst 0, 1), (59, .ireturn, 1)]
theorem tv_X12_isLetter : Tv cX12_isLetter tb_X12_isLetter := by
  unfold Tv
  decide +kernel
def e_isLetter_54 (R : RfT) : Option (Int32) := some ((1 : Int32))
def e_isLetter_24 (R : RfT) (x0 : Int32) : Option (Int32) := if x0 < ((48 : Int32)) then if x0 = ((46 : Int32)) then e_isLetter_54 R else if x0 = ((95 : Int32)) then e_isLetter_54 R else if x0 = ((45 : Int32)) then e_isLetter_54 R else some ((0 : Int32)) else if x0 ≤ ((57 : Int32)) then e_isLetter_54 R else if x0 = ((46 : Int32)) then e_isLetter_54 R else if x0 = ((95 : Int32)) then e_isLetter_54 R else if x0 = ((45 : Int32)) then e_isLetter_54 R else some ((0 : Int32))
def e_isLetter_12 (R : RfT) (x0 : Int32) : Option (Int32) := if x0 < ((65 : Int32)) then e_isLetter_24 R x0 else if x0 ≤ ((90 : Int32)) then e_isLetter_54 R else e_isLetter_24 R x0
def e_isLetter (R : RfT) (a0 : Int32) : Option (Int32) := if a0 < ((97 : Int32)) then e_isLetter_12 R a0 else if a0 ≤ ((122 : Int32)) then e_isLetter_54 R else e_isLetter_12 R a0
set_option maxRecDepth 100000 in
set_option maxHeartbeats 4000000 in
theorem l_X12_isLetter_54 (E : gE) (f0 : Nat → va_E) (sz : Nat) (QA : Nat → Prop) (hE : 94 ≤ gN E) (R : RfT) : ∀ (r : Int32) (hr : e_isLetter_54 R = some r) (f : Nat → va_E) (w : RW E f R) (hf : Fr RfK f0 f), G E (1, yX12_isLetter, 1, (some .boolean), sz, QA) cX12_isLetter (gO E (1, yX12_isLetter, 1, (some .boolean), sz, QA) (fun v g => v = some (.int r) ∧ RW E g R ∧ Fr RfK f0 g, fun _ _ => False)) 54 [] [] f := by
  intro r hr f w hf
  obtain ⟨az, sy, r0⟩ := w
  unfold e_isLetter_54 at hr
  refine G.go tv_X12_isLetter 2 59 [] [.int ((1 : Int32))] rfl ?_
  cases hr
  exact G.iret rfl rfl ⟨rfl, ⟨_, _, r0⟩, hf⟩ (tbd tv_X12_isLetter rfl)
set_option maxRecDepth 100000 in
set_option maxHeartbeats 4000000 in
theorem l_X12_isLetter_24 (E : gE) (f0 : Nat → va_E) (sz : Nat) (QA : Nat → Prop) (hE : 94 ≤ gN E) (R : RfT) : ∀ (x0 : Int32) (r : Int32) (hr : e_isLetter_24 R x0 = some r) (f : Nat → va_E) (w : RW E f R) (hf : Fr RfK f0 f), G E (1, yX12_isLetter, 1, (some .boolean), sz, QA) cX12_isLetter (gO E (1, yX12_isLetter, 1, (some .boolean), sz, QA) (fun v g => v = some (.int r) ∧ RW E g R ∧ Fr RfK f0 g, fun _ _ => False)) 24 [(0, .int (x0))] [] f := by
  intro x0 r hr f w hf
  obtain ⟨az, sy, r0⟩ := w
  unfold e_isLetter_24 at hr
  refine G.go tv_X12_isLetter 2 27 [(0, .int (x0))] [.int ((48 : Int32)), .int (x0)] rfl ?_
  refine G.cmp_lt 36 (tbd tv_X12_isLetter rfl) (by decide) (fun c27 => ?_) (fun c27 => ?_)
  · replace hr := ite_t c27 hr
    refine G.go tv_X12_isLetter 2 39 [(0, .int (x0))] [.int ((46 : Int32)), .int (x0)] rfl ?_
    refine G.cmp_eq 54 (tbd tv_X12_isLetter rfl) (by decide) (fun c39 => ?_) (fun c39 => ?_)
    · replace hr := ite_t c39 hr
      refine G.less [] [] rfl ?_
      exact l_X12_isLetter_54 E f0 sz QA hE R _ hr _ ⟨_, _, r0⟩ hf
    · replace hr := ite_f c39 hr
      refine G.go tv_X12_isLetter 2 45 [(0, .int (x0))] [.int ((95 : Int32)), .int (x0)] rfl ?_
      refine G.cmp_eq 54 (tbd tv_X12_isLetter rfl) (by decide) (fun c45 => ?_) (fun c45 => ?_)
      · replace hr := ite_t c45 hr
        refine G.less [] [] rfl ?_
        exact l_X12_isLetter_54 E f0 sz QA hE R _ hr _ ⟨_, _, r0⟩ hf
      · replace hr := ite_f c45 hr
        refine G.go tv_X12_isLetter 2 51 [(0, .int (x0))] [.int ((45 : Int32)), .int (x0)] rfl ?_
        refine G.cmp_ne 58 (tbd tv_X12_isLetter rfl) (by decide) (fun c51 => ?_) (fun c51 => ?_)
        · replace hr := ite_f c51 hr
          refine G.go tv_X12_isLetter 1 59 [(0, .int (x0))] [.int ((0 : Int32))] rfl ?_
          cases hr
          exact G.iret rfl rfl ⟨rfl, ⟨_, _, r0⟩, hf⟩ (tbd tv_X12_isLetter rfl)
        · replace hr := ite_t c51 hr
          refine G.less [] [] rfl ?_
          exact l_X12_isLetter_54 E f0 sz QA hE R _ hr _ ⟨_, _, r0⟩ hf
  · replace hr := ite_f c27 hr
    refine G.go tv_X12_isLetter 2 33 [(0, .int (x0))] [.int ((57 : Int32)), .int (x0)] rfl ?_
    refine G.cmp_le 54 (tbd tv_X12_isLetter rfl) (by decide) (fun c33 => ?_) (fun c33 => ?_)
    · replace hr := ite_t c33 hr
      refine G.less [] [] rfl ?_
      exact l_X12_isLetter_54 E f0 sz QA hE R _ hr _ ⟨_, _, r0⟩ hf
    · replace hr := ite_f c33 hr
      refine G.go tv_X12_isLetter 2 39 [(0, .int (x0))] [.int ((46 : Int32)), .int (x0)] rfl ?_
      refine G.cmp_eq 54 (tbd tv_X12_isLetter rfl) (by decide) (fun c39 => ?_) (fun c39 => ?_)
      · replace hr := ite_t c39 hr
        refine G.less [] [] rfl ?_
        exact l_X12_isLetter_54 E f0 sz QA hE R _ hr _ ⟨_, _, r0⟩ hf
      · replace hr := ite_f c39 hr
        refine G.go tv_X12_isLetter 2 45 [(0, .int (x0))] [.int ((95 : Int32)), .int (x0)] rfl ?_
        refine G.cmp_eq 54 (tbd tv_X12_isLetter rfl) (by decide) (fun c45 => ?_) (fun c45 => ?_)
        · replace hr := ite_t c45 hr
          refine G.less [] [] rfl ?_
          exact l_X12_isLetter_54 E f0 sz QA hE R _ hr _ ⟨_, _, r0⟩ hf
        · replace hr := ite_f c45 hr
          refine G.go tv_X12_isLetter 2 51 [(0, .int (x0))] [.int ((45 : Int32)), .int (x0)] rfl ?_
          refine G.cmp_ne 58 (tbd tv_X12_isLetter rfl) (by decide) (fun c51 => ?_) (fun c51 => ?_)
          · replace hr := ite_f c51 hr
            refine G.go tv_X12_isLetter 1 59 [(0, .int (x0))] [.int ((0 : Int32))] rfl ?_
            cases hr
            exact G.iret rfl rfl ⟨rfl, ⟨_, _, r0⟩, hf⟩ (tbd tv_X12_isLetter rfl)
          · replace hr := ite_t c51 hr
            refine G.less [] [] rfl ?_
            exact l_X12_isLetter_54 E f0 sz QA hE R _ hr _ ⟨_, _, r0⟩ hf
set_option maxRecDepth 100000 in
set_option maxHeartbeats 4000000 in
theorem l_X12_isLetter_12 (E : gE) (f0 : Nat → va_E) (sz : Nat) (QA : Nat → Prop) (hE : 94 ≤ gN E) (R : RfT) : ∀ (x0 : Int32) (r : Int32) (hr : e_isLetter_12 R x0 = some r) (f : Nat → va_E) (w : RW E f R) (hf : Fr RfK f0 f), G E (1, yX12_isLetter, 1, (some .boolean), sz, QA) cX12_isLetter (gO E (1, yX12_isLetter, 1, (some .boolean), sz, QA) (fun v g => v = some (.int r) ∧ RW E g R ∧ Fr RfK f0 g, fun _ _ => False)) 12 [(0, .int (x0))] [] f := by
  intro x0 r hr f w hf
  obtain ⟨az, sy, r0⟩ := w
  unfold e_isLetter_12 at hr
  refine G.go tv_X12_isLetter 2 15 [(0, .int (x0))] [.int ((65 : Int32)), .int (x0)] rfl ?_
  refine G.cmp_lt 24 (tbd tv_X12_isLetter rfl) (by decide) (fun c15 => ?_) (fun c15 => ?_)
  · replace hr := ite_t c15 hr
    refine G.less [(0, .int (x0))] [0] rfl ?_
    exact l_X12_isLetter_24 E f0 sz QA hE R _ _ hr _ ⟨_, _, r0⟩ hf
  · replace hr := ite_f c15 hr
    refine G.go tv_X12_isLetter 2 21 [(0, .int (x0))] [.int ((90 : Int32)), .int (x0)] rfl ?_
    refine G.cmp_le 54 (tbd tv_X12_isLetter rfl) (by decide) (fun c21 => ?_) (fun c21 => ?_)
    · replace hr := ite_t c21 hr
      refine G.less [] [] rfl ?_
      exact l_X12_isLetter_54 E f0 sz QA hE R _ hr _ ⟨_, _, r0⟩ hf
    · replace hr := ite_f c21 hr
      refine G.less [(0, .int (x0))] [0] rfl ?_
      exact l_X12_isLetter_24 E f0 sz QA hE R _ _ hr _ ⟨_, _, r0⟩ hf
set_option maxRecDepth 100000 in
set_option maxHeartbeats 4000000 in
theorem k_X12_isLetter (E : gE) (f : Nat → va_E) (hE : 94 ≤ gN E) (R : RfT) (w : RW E f R) (a0 : Int32) (r : Int32) (hr : e_isLetter R a0 = some r) : Ct E 1 yX12_isLetter cX12_isLetter 1 (some .boolean) [.int (a0)] f (fun v g => v = some (.int r) ∧ RW E g R ∧ Fr RfK f g, fun _ _ => False) := by
  obtain ⟨az, sy, r0⟩ := w
  refine Ct.of (by decide) (Nat.le_of_ble_eq_true rfl) (fun sz => ?_)
  refine G.eql [(0, .int (a0))] rfl ?_
  unfold e_isLetter at hr
  refine G.go tv_X12_isLetter 2 3 [(0, .int (a0))] [.int ((97 : Int32)), .int (a0)] rfl ?_
  refine G.cmp_lt 12 (tbd tv_X12_isLetter rfl) (by decide) (fun c3 => ?_) (fun c3 => ?_)
  · replace hr := ite_t c3 hr
    refine G.less [(0, .int (a0))] [0] rfl ?_
    exact l_X12_isLetter_12 E f sz _ hE R _ _ hr _ ⟨_, _, r0⟩ Fr.rf
  · replace hr := ite_f c3 hr
    refine G.go tv_X12_isLetter 2 9 [(0, .int (a0))] [.int ((122 : Int32)), .int (a0)] rfl ?_
    refine G.cmp_le 54 (tbd tv_X12_isLetter rfl) (by decide) (fun c9 => ?_) (fun c9 => ?_)
    · replace hr := ite_t c9 hr
      refine G.less [] [] rfl ?_
      exact l_X12_isLetter_54 E f sz _ hE R _ hr _ ⟨_, _, r0⟩ Fr.rf
    · replace hr := ite_f c9 hr
      refine G.less [(0, .int (a0))] [0] rfl ?_
      exact l_X12_isLetter_12 E f sz _ hE R _ _ hr _ ⟨_, _, r0⟩ Fr.rf
def tb_X12_tablesFor : List (Nat × Instr × Nat) := [(0, .iconst 0, 1), (1, .istore_n 2, 1), (2, .iconst (-1), 1), (3, .istore_n 3, 1), (4, .aload_n 0, 1), (5, .iload_n 1, 1), (6, .invokevirtual 344, 3), (9, .sipush 128, 3), (12, .iadd, 1), (13, .iconst 1, 1), (14, .isub, 1), (15, .sipush 128, 3), (18, .idiv, 1), (19, .istore 4, 2), (21, .bipush 8, 2), (23, .istore 5, 2), (25, .iload 5, 2), (27, .iload 4, 2), (29, .if_icmp .ge 71, 3), (32, .iload 5, 2), (34, .bipush 72, 2), (36, .if_icmp .ge 7, 3), (39, .iconst 0, 1), (40, .goto 13, 3), (43, .iconst 1, 1), (44, .iload 5, 2), (46, .bipush 72, 2), (48, .isub, 1), (49, .bipush 64, 2), (51, .idiv, 1), (52, .iadd, 1), (53, .istore 6, 2), (55, .iload 6, 2), (57, .iload_n 3, 1), (58, .if_icmp .eq 36, 3), (61, .aload_n 0, 1), (62, .iload_n 1, 1), (63, .iload 5, 2), (65, .invokevirtual 323, 3), (68, .ifCond .eq 26, 3), (71, .iload 6, 2), (73, .ifCond .le 14, 3), (76, .iload_n 3, 1), (77, .iconst 1, 1), (78, .if_icmp .ge 9, 3), (81, .iload_n 2, 1), (82, .iconst 2, 1), (83, .iadd, 1), (84, .goto 6, 3), (87, .iload_n 2, 1), (88, .iconst 1, 1), (89, .iadd, 1), (90, .istore_n 2, 1), (91, .iload 6, 2), (93, .istore_n 3, 1), (94, .iinc 5 1, 3), (97, .goto (-72), 3), (100, .iload_n 2, 1), (101, .ireturn, 1)]
theorem tv_X12_tablesFor : Tv cX12_tablesFor tb_X12_tablesFor := by
  unfold Tv
  decide +kernel
def e_tablesFor_55 (R : RfT) (self25 : Int32 → Int32 → Int32 → Int32 → Int32 → Option (Int32)) (x1 : Int32) (x2 : Int32) (x3 : Int32) (x4 : Int32) (x5 : Int32) (x6 : Int32) : Option (Int32) := if x6 = x3 then self25 x1 x2 x3 x4 (x5 + (1 : Int32)) else bnd (e_blockOf R x1 x5) (fun v102 => if v102 = 0 then self25 x1 x2 x3 x4 (x5 + (1 : Int32)) else if x6 ≤ 0 then self25 x1 ((x2) + ((1 : Int32))) x6 x4 (x5 + (1 : Int32)) else if ((1 : Int32)) ≤ x3 then self25 x1 ((x2) + ((1 : Int32))) x6 x4 (x5 + (1 : Int32)) else self25 x1 ((x2) + ((2 : Int32))) x6 x4 (x5 + (1 : Int32)))
def e_tablesFor_25 (R : RfT) : Nat → Int32 → Int32 → Int32 → Int32 → Int32 → Option (Int32)
  | 0, _, _, _, _, _ => none
  | n + 1, x1, x2, x3, x4, x5 => if x4 ≤ x5 then some x2 else if ((72 : Int32)) ≤ x5 then nm (((1 : Int32)) + (((x5) - ((72 : Int32))) / ((64 : Int32)))) (fun v101 => e_tablesFor_55 R (e_tablesFor_25 R n) x1 x2 x3 x4 x5 v101) else e_tablesFor_55 R (e_tablesFor_25 R n) x1 x2 x3 x4 x5 ((0 : Int32))
def e_tablesFor (R : RfT) (a0 : Int32) : Option (Int32) := bnd (e_size R a0) (fun v99 => nm ((((v99) + ((128 : Int32))) - ((1 : Int32))) / ((128 : Int32))) (fun v100 => e_tablesFor_25 R fuL a0 ((0 : Int32)) ((-1 : Int32)) v100 ((8 : Int32))))
set_option maxRecDepth 100000 in
set_option maxHeartbeats 4000000 in
theorem l_X12_tablesFor_55 (E : gE) (f0 : Nat → va_E) (sz : Nat) (QA : Nat → Prop) (hE : 94 ≤ gN E) (R : RfT) (self25 : Int32 → Int32 → Int32 → Int32 → Int32 → Option (Int32)) (hs25 : ∀ (x1 : Int32) (x2 : Int32) (x3 : Int32) (x4 : Int32) (x5 : Int32) (r : Int32) (hr : self25 x1 x2 x3 x4 x5 = some r) (f : Nat → va_E) (w : RW E f R) (hf : Fr RfK f0 f), G E (6, yX12_tablesFor, 7, (some .int), sz, QA) cX12_tablesFor (gO E (6, yX12_tablesFor, 7, (some .int), sz, QA) (fun v g => v = some (.int r) ∧ RW E g R ∧ Fr RfK f0 g, fun _ _ => False)) 25 [(0, .ref (gAd E (56))), (1, .int (x1)), (2, .int (x2)), (3, .int (x3)), (4, .int (x4)), (5, .int (x5))] [] f) : ∀ (x1 : Int32) (x2 : Int32) (x3 : Int32) (x4 : Int32) (x5 : Int32) (x6 : Int32) (r : Int32) (hr : e_tablesFor_55 R self25 x1 x2 x3 x4 x5 x6 = some r) (f : Nat → va_E) (w : RW E f R) (hf : Fr RfK f0 f), G E (6, yX12_tablesFor, 7, (some .int), sz, QA) cX12_tablesFor (gO E (6, yX12_tablesFor, 7, (some .int), sz, QA) (fun v g => v = some (.int r) ∧ RW E g R ∧ Fr RfK f0 g, fun _ _ => False)) 55 [(0, .ref (gAd E (56))), (1, .int (x1)), (2, .int (x2)), (3, .int (x3)), (4, .int (x4)), (5, .int (x5)), (6, .int (x6))] [] f := by
  intro x1 x2 x3 x4 x5 x6 r hr f w hf
  obtain ⟨az, sy, r0⟩ := w
  unfold e_tablesFor_55 at hr
  refine G.go tv_X12_tablesFor 2 58 [(0, .ref (gAd E (56))), (1, .int (x1)), (2, .int (x2)), (3, .int (x3)), (4, .int (x4)), (5, .int (x5)), (6, .int (x6))] [.int (x3), .int (x6)] rfl ?_
  refine G.cmp_eq 94 (tbd tv_X12_tablesFor rfl) (by decide) (fun c58 => ?_) (fun c58 => ?_)
  · replace hr := ite_t c58 hr
    refine G.go tv_X12_tablesFor 2 25 [(0, .ref (gAd E (56))), (1, .int (x1)), (2, .int (x2)), (3, .int (x3)), (4, .int (x4)), (5, .int (x5 + (1 : Int32))), (6, .int (x6))] [] rfl ?_
    refine G.less [(0, .ref (gAd E (56))), (1, .int (x1)), (2, .int (x2)), (3, .int (x3)), (4, .int (x4)), (5, .int (x5 + (1 : Int32)))] [0, 1, 2, 3, 4, 5] rfl ?_
    exact hs25 _ _ _ _ _ _ hr _ ⟨_, _, r0⟩ hf
  · replace hr := ite_f c58 hr
    refine G.go tv_X12_tablesFor 3 65 [(0, .ref (gAd E (56))), (1, .int (x1)), (2, .int (x2)), (3, .int (x3)), (4, .int (x4)), (5, .int (x5)), (6, .int (x6))] [.int (x5), .int (x1), .ref (gAd E (56))] rfl ?_
    obtain ⟨v102, hv102, hr⟩ := bnd_s hr
    refine G.callV (56) [.int (x1), .int (x5)] [] (k_X12_blockOf E _ hE R ⟨_, _, r0⟩ x1 x5 v102 hv102) cls_X12 (by omega) (r0.o) cw_X12_323 w_2507 w_105 (Nat.le_of_ble_eq_true rfl) rfl (Nat.le_of_ble_eq_true rfl) (tbd tv_X12_tablesFor rfl) (fun v102w f102 q102 => ?_) (fun _ _ h => h.elim)
    obtain ⟨rfl, ⟨az102, sy102, r102⟩, fa102⟩ := q102
    refine G.eqs [.int (v102)] rfl ?_
    refine G.if_eq 94 (tbd tv_X12_tablesFor rfl) (by decide) (fun c68 => ?_) (fun c68 => ?_)
    · replace hr := ite_t c68 hr
      refine G.go tv_X12_tablesFor 2 25 [(0, .ref (gAd E (56))), (1, .int (x1)), (2, .int (x2)), (3, .int (x3)), (4, .int (x4)), (5, .int (x5 + (1 : Int32))), (6, .int (x6))] [] rfl ?_
      refine G.less [(0, .ref (gAd E (56))), (1, .int (x1)), (2, .int (x2)), (3, .int (x3)), (4, .int (x4)), (5, .int (x5 + (1 : Int32)))] [0, 1, 2, 3, 4, 5] rfl ?_
      exact hs25 _ _ _ _ _ _ hr _ ⟨_, _, r102⟩ (hf.tr fa102 (fun _ h => h))
    · replace hr := ite_f c68 hr
      refine G.go tv_X12_tablesFor 1 73 [(0, .ref (gAd E (56))), (1, .int (x1)), (2, .int (x2)), (3, .int (x3)), (4, .int (x4)), (5, .int (x5)), (6, .int (x6))] [.int (x6)] rfl ?_
      refine G.if_le 87 (tbd tv_X12_tablesFor rfl) (by decide) (fun c73 => ?_) (fun c73 => ?_)
      · replace hr := ite_t c73 hr
        refine G.go tv_X12_tablesFor 8 25 [(0, .ref (gAd E (56))), (1, .int (x1)), (2, .int ((x2) + ((1 : Int32)))), (3, .int (x6)), (4, .int (x4)), (5, .int (x5 + (1 : Int32))), (6, .int (x6))] [] rfl ?_
        refine G.less [(0, .ref (gAd E (56))), (1, .int (x1)), (2, .int ((x2) + ((1 : Int32)))), (3, .int (x6)), (4, .int (x4)), (5, .int (x5 + (1 : Int32)))] [0, 1, 2, 3, 4, 5] rfl ?_
        exact hs25 _ _ _ _ _ _ hr _ ⟨_, _, r102⟩ (hf.tr fa102 (fun _ h => h))
      · replace hr := ite_f c73 hr
        refine G.go tv_X12_tablesFor 2 78 [(0, .ref (gAd E (56))), (1, .int (x1)), (2, .int (x2)), (3, .int (x3)), (4, .int (x4)), (5, .int (x5)), (6, .int (x6))] [.int ((1 : Int32)), .int (x3)] rfl ?_
        refine G.cmp_ge 87 (tbd tv_X12_tablesFor rfl) (by decide) (fun c78 => ?_) (fun c78 => ?_)
        · replace hr := ite_t c78 hr
          refine G.go tv_X12_tablesFor 8 25 [(0, .ref (gAd E (56))), (1, .int (x1)), (2, .int ((x2) + ((1 : Int32)))), (3, .int (x6)), (4, .int (x4)), (5, .int (x5 + (1 : Int32))), (6, .int (x6))] [] rfl ?_
          refine G.less [(0, .ref (gAd E (56))), (1, .int (x1)), (2, .int ((x2) + ((1 : Int32)))), (3, .int (x6)), (4, .int (x4)), (5, .int (x5 + (1 : Int32)))] [0, 1, 2, 3, 4, 5] rfl ?_
          exact hs25 _ _ _ _ _ _ hr _ ⟨_, _, r102⟩ (hf.tr fa102 (fun _ h => h))
        · replace hr := ite_f c78 hr
          refine G.go tv_X12_tablesFor 9 25 [(0, .ref (gAd E (56))), (1, .int (x1)), (2, .int ((x2) + ((2 : Int32)))), (3, .int (x6)), (4, .int (x4)), (5, .int (x5 + (1 : Int32))), (6, .int (x6))] [] rfl ?_
          refine G.less [(0, .ref (gAd E (56))), (1, .int (x1)), (2, .int ((x2) + ((2 : Int32)))), (3, .int (x6)), (4, .int (x4)), (5, .int (x5 + (1 : Int32)))] [0, 1, 2, 3, 4, 5] rfl ?_
          exact hs25 _ _ _ _ _ _ hr _ ⟨_, _, r102⟩ (hf.tr fa102 (fun _ h => h))
set_option maxRecDepth 100000 in
set_option maxHeartbeats 4000000 in
theorem l_X12_tablesFor_25 (E : gE) (f0 : Nat → va_E) (sz : Nat) (QA : Nat → Prop) (hE : 94 ≤ gN E) (R : RfT) : ∀ (n : Nat), ∀ (x1 : Int32) (x2 : Int32) (x3 : Int32) (x4 : Int32) (x5 : Int32) (r : Int32) (hr : e_tablesFor_25 R n x1 x2 x3 x4 x5 = some r) (f : Nat → va_E) (w : RW E f R) (hf : Fr RfK f0 f), G E (6, yX12_tablesFor, 7, (some .int), sz, QA) cX12_tablesFor (gO E (6, yX12_tablesFor, 7, (some .int), sz, QA) (fun v g => v = some (.int r) ∧ RW E g R ∧ Fr RfK f0 g, fun _ _ => False)) 25 [(0, .ref (gAd E (56))), (1, .int (x1)), (2, .int (x2)), (3, .int (x3)), (4, .int (x4)), (5, .int (x5))] [] f := by
  intro n
  induction n with
  | zero =>
    intro x1 x2 x3 x4 x5 r hr f w hf
    cases hr
  | succ n ih =>
    intro x1 x2 x3 x4 x5 r hr f w hf
    obtain ⟨az, sy, r0⟩ := w
    unfold e_tablesFor_25 at hr
    refine G.go tv_X12_tablesFor 2 29 [(0, .ref (gAd E (56))), (1, .int (x1)), (2, .int (x2)), (3, .int (x3)), (4, .int (x4)), (5, .int (x5))] [.int (x4), .int (x5)] rfl ?_
    refine G.cmp_ge 100 (tbd tv_X12_tablesFor rfl) (by decide) (fun c29 => ?_) (fun c29 => ?_)
    · replace hr := ite_t c29 hr
      refine G.go tv_X12_tablesFor 1 101 [(0, .ref (gAd E (56))), (1, .int (x1)), (2, .int (x2)), (3, .int (x3)), (4, .int (x4)), (5, .int (x5))] [.int (x2)] rfl ?_
      cases hr
      exact G.iret rfl rfl ⟨rfl, ⟨_, _, r0⟩, hf⟩ (tbd tv_X12_tablesFor rfl)
    · replace hr := ite_f c29 hr
      refine G.go tv_X12_tablesFor 2 36 [(0, .ref (gAd E (56))), (1, .int (x1)), (2, .int (x2)), (3, .int (x3)), (4, .int (x4)), (5, .int (x5))] [.int ((72 : Int32)), .int (x5)] rfl ?_
      refine G.cmp_ge 43 (tbd tv_X12_tablesFor rfl) (by decide) (fun c36 => ?_) (fun c36 => ?_)
      · replace hr := ite_t c36 hr
        refine G.go tv_X12_tablesFor 5 51 [(0, .ref (gAd E (56))), (1, .int (x1)), (2, .int (x2)), (3, .int (x3)), (4, .int (x4)), (5, .int (x5))] [.int ((64 : Int32)), .int ((x5) - ((72 : Int32))), .int ((1 : Int32))] rfl ?_
        refine G.idiv (by decide) (tbd tv_X12_tablesFor rfl) ?_
        refine G.go tv_X12_tablesFor 2 55 [(0, .ref (gAd E (56))), (1, .int (x1)), (2, .int (x2)), (3, .int (x3)), (4, .int (x4)), (5, .int (x5)), (6, .int (((1 : Int32)) + (((x5) - ((72 : Int32))) / ((64 : Int32)))))] [] rfl ?_
        obtain ⟨v101, e101, hr⟩ := nm_s hr
        refine G.eql [(0, .ref (gAd E (56))), (1, .int (x1)), (2, .int (x2)), (3, .int (x3)), (4, .int (x4)), (5, .int (x5)), (6, .int (v101))] (by rw [e101]) ?_
        refine G.less [(0, .ref (gAd E (56))), (1, .int (x1)), (2, .int (x2)), (3, .int (x3)), (4, .int (x4)), (5, .int (x5)), (6, .int (v101))] [0, 1, 2, 3, 4, 5, 6] rfl ?_
        exact l_X12_tablesFor_55 E f0 sz QA hE R _ ih _ _ _ _ _ _ _ hr _ ⟨_, _, r0⟩ hf
      · replace hr := ite_f c36 hr
        refine G.go tv_X12_tablesFor 3 55 [(0, .ref (gAd E (56))), (1, .int (x1)), (2, .int (x2)), (3, .int (x3)), (4, .int (x4)), (5, .int (x5)), (6, .int ((0 : Int32)))] [] rfl ?_
        refine G.less [(0, .ref (gAd E (56))), (1, .int (x1)), (2, .int (x2)), (3, .int (x3)), (4, .int (x4)), (5, .int (x5)), (6, .int ((0 : Int32)))] [0, 1, 2, 3, 4, 5, 6] rfl ?_
        exact l_X12_tablesFor_55 E f0 sz QA hE R _ ih _ _ _ _ _ _ _ hr _ ⟨_, _, r0⟩ hf
set_option maxRecDepth 100000 in
set_option maxHeartbeats 4000000 in
theorem k_X12_tablesFor (E : gE) (f : Nat → va_E) (hE : 94 ≤ gN E) (R : RfT) (w : RW E f R) (a0 : Int32) (r : Int32) (hr : e_tablesFor R a0 = some r) : Ct E 6 yX12_tablesFor cX12_tablesFor 7 (some .int) [.ref (gAd E (56)), .int (a0)] f (fun v g => v = some (.int r) ∧ RW E g R ∧ Fr RfK f g, fun _ _ => False) := by
  obtain ⟨az, sy, r0⟩ := w
  refine Ct.of (by decide) (Nat.le_of_ble_eq_true rfl) (fun sz => ?_)
  refine G.eql [(0, .ref (gAd E (56))), (1, .int (a0))] rfl ?_
  unfold e_tablesFor at hr
  refine G.go tv_X12_tablesFor 6 6 [(0, .ref (gAd E (56))), (1, .int (a0)), (2, .int ((0 : Int32))), (3, .int ((-1 : Int32)))] [.int (a0), .ref (gAd E (56))] rfl ?_
  obtain ⟨v99, hv99, hr⟩ := bnd_s hr
  refine G.callV (56) [.int (a0)] [] (k_X12_size E _ hE R ⟨_, _, r0⟩ a0 v99 hv99) cls_X12 (by omega) (r0.o) cw_X12_344 w_2503 w_104 (Nat.le_of_ble_eq_true rfl) rfl (Nat.le_of_ble_eq_true rfl) (tbd tv_X12_tablesFor rfl) (fun v99w f99 q99 => ?_) (fun _ _ h => h.elim)
  obtain ⟨rfl, ⟨az99, sy99, r99⟩, fa99⟩ := q99
  refine G.eqs [.int (v99)] rfl ?_
  refine G.go tv_X12_tablesFor 5 18 [(0, .ref (gAd E (56))), (1, .int (a0)), (2, .int ((0 : Int32))), (3, .int ((-1 : Int32)))] [.int ((128 : Int32)), .int (((v99) + ((128 : Int32))) - ((1 : Int32)))] rfl ?_
  refine G.idiv (by decide) (tbd tv_X12_tablesFor rfl) ?_
  refine G.go tv_X12_tablesFor 1 21 [(0, .ref (gAd E (56))), (1, .int (a0)), (2, .int ((0 : Int32))), (3, .int ((-1 : Int32))), (4, .int ((((v99) + ((128 : Int32))) - ((1 : Int32))) / ((128 : Int32))))] [] rfl ?_
  obtain ⟨v100, e100, hr⟩ := nm_s hr
  refine G.eql [(0, .ref (gAd E (56))), (1, .int (a0)), (2, .int ((0 : Int32))), (3, .int ((-1 : Int32))), (4, .int (v100))] (by rw [e100]) ?_
  refine G.go tv_X12_tablesFor 2 25 [(0, .ref (gAd E (56))), (1, .int (a0)), (2, .int ((0 : Int32))), (3, .int ((-1 : Int32))), (4, .int (v100)), (5, .int ((8 : Int32)))] [] rfl ?_
  refine G.less [(0, .ref (gAd E (56))), (1, .int (a0)), (2, .int ((0 : Int32))), (3, .int ((-1 : Int32))), (4, .int (v100)), (5, .int ((8 : Int32)))] [0, 1, 2, 3, 4, 5] rfl ?_
  exact l_X12_tablesFor_25 E f sz _ hE R _ _ _ _ _ _ _ hr _ ⟨_, _, r99⟩ (Fr.rf.tr fa99 (fun _ h => h))
def tb_X12_wantedBy : List (Nat × Instr × Nat) := [(0, .iconst 0, 1), (1, .istore_n 2, 1), (2, .iconst (-1), 1), (3, .istore_n 3, 1), (4, .iconst 0, 1), (5, .istore 4, 2), (7, .aload_n 0, 1), (8, .iload_n 1, 1), (9, .invokevirtual 344, 3), (12, .sipush 128, 3), (15, .iadd, 1), (16, .iconst 1, 1), (17, .isub, 1), (18, .sipush 128, 3), (21, .idiv, 1), (22, .istore 5, 2), (24, .iconst 0, 1), (25, .istore 6, 2), (27, .iload 6, 2), (29, .iload 5, 2), (31, .if_icmp .ge 117, 3), (34, .aload_n 0, 1), (35, .iload_n 1, 1), (36, .iload 6, 2), (38, .invokevirtual 323, 3), (41, .ifCond .eq 101, 3), (44, .iload 6, 2), (46, .bipush 8, 2), (48, .if_icmp .ge 7, 3), (51, .iconst (-1), 1), (52, .goto 24, 3), (55, .iload 6, 2), (57, .bipush 72, 2), (59, .if_icmp .ge 7, 3), (62, .iconst 0, 1), (63, .goto 13, 3), (66, .iconst 1, 1), (67, .iload 6, 2), (69, .bipush 72, 2), (71, .isub, 1), (72, .bipush 64, 2), (74, .idiv, 1), (75, .iadd, 1), (76, .istore 7, 2), (78, .iload 7, 2), (80, .iload_n 3, 1), (81, .if_icmp .eq 15, 3), (84, .iload 7, 2), (86, .iconst (-1), 1), (87, .if_icmp .eq 9, 3), (90, .iload_n 2, 1), (91, .iconst 2, 1), (92, .iadd, 1), (93, .goto 6, 3), (96, .iload_n 2, 1), (97, .iconst 1, 1), (98, .iadd, 1), (99, .istore_n 2, 1), (100, .iload 6, 2), (102, .bipush 72, 2), (104, .if_icmp .lt 14, 3), (107, .iload 4, 2), (109, .ifCond .ne 9, 3), (112, .iload_n 2, 1), (113, .iconst 1, 1), (114, .iadd, 1), (115, .goto 4, 3), (118, .iload_n 2, 1), (119, .istore_n 2, 1), (120, .iload 4, 2), (122, .ifCond .ne 10, 3), (125, .iload 6, 2), (127, .bipush 72, 2), (129, .if_icmp .lt 7, 3), (132, .iconst 1, 1), (133, .goto 4, 3), (136, .iconst 0, 1), (137, .istore 4, 2), (139, .iload 7, 2), (141, .istore_n 3, 1), (142, .iinc 6 1, 3), (145, .goto (-118), 3), (148, .iload_n 2, 1), (149, .ireturn, 1)]
theorem tv_X12_wantedBy : Tv cX12_wantedBy tb_X12_wantedBy := by
  unfold Tv
  decide +kernel
def e_wantedBy_132 (R : RfT) (self27 : Int32 → Int32 → Int32 → Int32 → Int32 → Int32 → Option (Int32)) (x1 : Int32) (x2 : Int32) (x5 : Int32) (x6 : Int32) (x7 : Int32) : Option (Int32) := self27 x1 x2 x7 ((1 : Int32)) x5 (x6 + (1 : Int32))
def e_wantedBy_118 (R : RfT) (self27 : Int32 → Int32 → Int32 → Int32 → Int32 → Int32 → Option (Int32)) (x1 : Int32) (x2 : Int32) (x4 : Int32) (x5 : Int32) (x6 : Int32) (x7 : Int32) : Option (Int32) := if x4 = 0 then if x6 < ((72 : Int32)) then self27 x1 x2 x7 ((0 : Int32)) x5 (x6 + (1 : Int32)) else e_wantedBy_132 R self27 x1 x2 x5 x6 x7 else e_wantedBy_132 R self27 x1 x2 x5 x6 x7
def e_wantedBy_100 (R : RfT) (self27 : Int32 → Int32 → Int32 → Int32 → Int32 → Int32 → Option (Int32)) (x1 : Int32) (x2 : Int32) (x4 : Int32) (x5 : Int32) (x6 : Int32) (x7 : Int32) : Option (Int32) := if x6 < ((72 : Int32)) then e_wantedBy_118 R self27 x1 x2 x4 x5 x6 x7 else if x4 = 0 then if x4 = 0 then if x6 < ((72 : Int32)) then self27 x1 ((x2) + ((1 : Int32))) x7 ((0 : Int32)) x5 (x6 + (1 : Int32)) else e_wantedBy_132 R self27 x1 ((x2) + ((1 : Int32))) x5 x6 x7 else e_wantedBy_132 R self27 x1 ((x2) + ((1 : Int32))) x5 x6 x7 else e_wantedBy_118 R self27 x1 x2 x4 x5 x6 x7
def e_wantedBy_96 (R : RfT) (self27 : Int32 → Int32 → Int32 → Int32 → Int32 → Int32 → Option (Int32)) (x1 : Int32) (x2 : Int32) (x4 : Int32) (x5 : Int32) (x6 : Int32) (x7 : Int32) : Option (Int32) := e_wantedBy_100 R self27 x1 ((x2) + ((1 : Int32))) x4 x5 x6 x7
def e_wantedBy_78 (R : RfT) (self27 : Int32 → Int32 → Int32 → Int32 → Int32 → Int32 → Option (Int32)) (x1 : Int32) (x2 : Int32) (x3 : Int32) (x4 : Int32) (x5 : Int32) (x6 : Int32) (x7 : Int32) : Option (Int32) := if x7 = x3 then e_wantedBy_96 R self27 x1 x2 x4 x5 x6 x7 else if x7 = ((-1 : Int32)) then e_wantedBy_96 R self27 x1 x2 x4 x5 x6 x7 else e_wantedBy_100 R self27 x1 ((x2) + ((2 : Int32))) x4 x5 x6 x7
def e_wantedBy_27 (R : RfT) : Nat → Int32 → Int32 → Int32 → Int32 → Int32 → Int32 → Option (Int32)
  | 0, _, _, _, _, _, _ => none
  | n + 1, x1, x2, x3, x4, x5, x6 => if x5 ≤ x6 then some x2 else bnd (e_blockOf R x1 x6) (fun v105 => if v105 = 0 then e_wantedBy_27 R n x1 x2 x3 x4 x5 (x6 + (1 : Int32)) else if ((8 : Int32)) ≤ x6 then if ((72 : Int32)) ≤ x6 then nm (((1 : Int32)) + (((x6) - ((72 : Int32))) / ((64 : Int32)))) (fun v106 => e_wantedBy_78 R (e_wantedBy_27 R n) x1 x2 x3 x4 x5 x6 v106) else e_wantedBy_78 R (e_wantedBy_27 R n) x1 x2 x3 x4 x5 x6 ((0 : Int32)) else e_wantedBy_78 R (e_wantedBy_27 R n) x1 x2 x3 x4 x5 x6 ((-1 : Int32)))
def e_wantedBy (R : RfT) (a0 : Int32) : Option (Int32) := bnd (e_size R a0) (fun v103 => nm ((((v103) + ((128 : Int32))) - ((1 : Int32))) / ((128 : Int32))) (fun v104 => e_wantedBy_27 R fuL a0 ((0 : Int32)) ((-1 : Int32)) ((0 : Int32)) v104 ((0 : Int32))))
set_option maxRecDepth 100000 in
set_option maxHeartbeats 4000000 in
theorem l_X12_wantedBy_132 (E : gE) (f0 : Nat → va_E) (sz : Nat) (QA : Nat → Prop) (hE : 94 ≤ gN E) (R : RfT) (self27 : Int32 → Int32 → Int32 → Int32 → Int32 → Int32 → Option (Int32)) (hs27 : ∀ (x1 : Int32) (x2 : Int32) (x3 : Int32) (x4 : Int32) (x5 : Int32) (x6 : Int32) (r : Int32) (hr : self27 x1 x2 x3 x4 x5 x6 = some r) (f : Nat → va_E) (w : RW E f R) (hf : Fr RfK f0 f), G E (6, yX12_wantedBy, 8, (some .int), sz, QA) cX12_wantedBy (gO E (6, yX12_wantedBy, 8, (some .int), sz, QA) (fun v g => v = some (.int r) ∧ RW E g R ∧ Fr RfK f0 g, fun _ _ => False)) 27 [(0, .ref (gAd E (56))), (1, .int (x1)), (2, .int (x2)), (3, .int (x3)), (4, .int (x4)), (5, .int (x5)), (6, .int (x6))] [] f) : ∀ (x1 : Int32) (x2 : Int32) (x5 : Int32) (x6 : Int32) (x7 : Int32) (r : Int32) (hr : e_wantedBy_132 R self27 x1 x2 x5 x6 x7 = some r) (f : Nat → va_E) (w : RW E f R) (hf : Fr RfK f0 f), G E (6, yX12_wantedBy, 8, (some .int), sz, QA) cX12_wantedBy (gO E (6, yX12_wantedBy, 8, (some .int), sz, QA) (fun v g => v = some (.int r) ∧ RW E g R ∧ Fr RfK f0 g, fun _ _ => False)) 132 [(0, .ref (gAd E (56))), (1, .int (x1)), (2, .int (x2)), (5, .int (x5)), (6, .int (x6)), (7, .int (x7))] [] f := by
  intro x1 x2 x5 x6 x7 r hr f w hf
  obtain ⟨az, sy, r0⟩ := w
  unfold e_wantedBy_132 at hr
  refine G.go tv_X12_wantedBy 7 27 [(0, .ref (gAd E (56))), (1, .int (x1)), (2, .int (x2)), (5, .int (x5)), (6, .int (x6 + (1 : Int32))), (7, .int (x7)), (4, .int ((1 : Int32))), (3, .int (x7))] [] rfl ?_
  refine G.less [(0, .ref (gAd E (56))), (1, .int (x1)), (2, .int (x2)), (3, .int (x7)), (4, .int ((1 : Int32))), (5, .int (x5)), (6, .int (x6 + (1 : Int32)))] [0, 1, 2, 7, 6, 3, 4] rfl ?_
  exact hs27 _ _ _ _ _ _ _ hr _ ⟨_, _, r0⟩ hf
set_option maxRecDepth 100000 in
set_option maxHeartbeats 4000000 in
theorem l_X12_wantedBy_118 (E : gE) (f0 : Nat → va_E) (sz : Nat) (QA : Nat → Prop) (hE : 94 ≤ gN E) (R : RfT) (self27 : Int32 → Int32 → Int32 → Int32 → Int32 → Int32 → Option (Int32)) (hs27 : ∀ (x1 : Int32) (x2 : Int32) (x3 : Int32) (x4 : Int32) (x5 : Int32) (x6 : Int32) (r : Int32) (hr : self27 x1 x2 x3 x4 x5 x6 = some r) (f : Nat → va_E) (w : RW E f R) (hf : Fr RfK f0 f), G E (6, yX12_wantedBy, 8, (some .int), sz, QA) cX12_wantedBy (gO E (6, yX12_wantedBy, 8, (some .int), sz, QA) (fun v g => v = some (.int r) ∧ RW E g R ∧ Fr RfK f0 g, fun _ _ => False)) 27 [(0, .ref (gAd E (56))), (1, .int (x1)), (2, .int (x2)), (3, .int (x3)), (4, .int (x4)), (5, .int (x5)), (6, .int (x6))] [] f) : ∀ (x1 : Int32) (x2 : Int32) (x4 : Int32) (x5 : Int32) (x6 : Int32) (x7 : Int32) (r : Int32) (hr : e_wantedBy_118 R self27 x1 x2 x4 x5 x6 x7 = some r) (f : Nat → va_E) (w : RW E f R) (hf : Fr RfK f0 f), G E (6, yX12_wantedBy, 8, (some .int), sz, QA) cX12_wantedBy (gO E (6, yX12_wantedBy, 8, (some .int), sz, QA) (fun v g => v = some (.int r) ∧ RW E g R ∧ Fr RfK f0 g, fun _ _ => False)) 118 [(0, .ref (gAd E (56))), (1, .int (x1)), (2, .int (x2)), (4, .int (x4)), (5, .int (x5)), (6, .int (x6)), (7, .int (x7))] [] f := by
  intro x1 x2 x4 x5 x6 x7 r hr f w hf
  obtain ⟨az, sy, r0⟩ := w
  unfold e_wantedBy_118 at hr
  refine G.go tv_X12_wantedBy 3 122 [(0, .ref (gAd E (56))), (1, .int (x1)), (2, .int (x2)), (4, .int (x4)), (5, .int (x5)), (6, .int (x6)), (7, .int (x7))] [.int (x4)] rfl ?_
  refine G.if_ne 132 (tbd tv_X12_wantedBy rfl) (by decide) (fun c122 => ?_) (fun c122 => ?_)
  · replace hr := ite_f c122 hr
    refine G.less [(0, .ref (gAd E (56))), (1, .int (x1)), (2, .int (x2)), (5, .int (x5)), (6, .int (x6)), (7, .int (x7))] [0, 1, 2, 4, 5, 6] rfl ?_
    exact l_X12_wantedBy_132 E f0 sz QA hE R _ hs27 _ _ _ _ _ _ hr _ ⟨_, _, r0⟩ hf
  · replace hr := ite_t c122 hr
    refine G.go tv_X12_wantedBy 2 129 [(0, .ref (gAd E (56))), (1, .int (x1)), (2, .int (x2)), (4, .int (x4)), (5, .int (x5)), (6, .int (x6)), (7, .int (x7))] [.int ((72 : Int32)), .int (x6)] rfl ?_
    refine G.cmp_lt 136 (tbd tv_X12_wantedBy rfl) (by decide) (fun c129 => ?_) (fun c129 => ?_)
    · replace hr := ite_t c129 hr
      refine G.go tv_X12_wantedBy 6 27 [(0, .ref (gAd E (56))), (1, .int (x1)), (2, .int (x2)), (4, .int ((0 : Int32))), (5, .int (x5)), (6, .int (x6 + (1 : Int32))), (7, .int (x7)), (3, .int (x7))] [] rfl ?_
      refine G.less [(0, .ref (gAd E (56))), (1, .int (x1)), (2, .int (x2)), (3, .int (x7)), (4, .int ((0 : Int32))), (5, .int (x5)), (6, .int (x6 + (1 : Int32)))] [0, 1, 2, 7, 3, 4, 5] rfl ?_
      exact hs27 _ _ _ _ _ _ _ hr _ ⟨_, _, r0⟩ hf
    · replace hr := ite_f c129 hr
      refine G.less [(0, .ref (gAd E (56))), (1, .int (x1)), (2, .int (x2)), (5, .int (x5)), (6, .int (x6)), (7, .int (x7))] [0, 1, 2, 4, 5, 6] rfl ?_
      exact l_X12_wantedBy_132 E f0 sz QA hE R _ hs27 _ _ _ _ _ _ hr _ ⟨_, _, r0⟩ hf
set_option maxRecDepth 100000 in
set_option maxHeartbeats 4000000 in
theorem l_X12_wantedBy_100 (E : gE) (f0 : Nat → va_E) (sz : Nat) (QA : Nat → Prop) (hE : 94 ≤ gN E) (R : RfT) (self27 : Int32 → Int32 → Int32 → Int32 → Int32 → Int32 → Option (Int32)) (hs27 : ∀ (x1 : Int32) (x2 : Int32) (x3 : Int32) (x4 : Int32) (x5 : Int32) (x6 : Int32) (r : Int32) (hr : self27 x1 x2 x3 x4 x5 x6 = some r) (f : Nat → va_E) (w : RW E f R) (hf : Fr RfK f0 f), G E (6, yX12_wantedBy, 8, (some .int), sz, QA) cX12_wantedBy (gO E (6, yX12_wantedBy, 8, (some .int), sz, QA) (fun v g => v = some (.int r) ∧ RW E g R ∧ Fr RfK f0 g, fun _ _ => False)) 27 [(0, .ref (gAd E (56))), (1, .int (x1)), (2, .int (x2)), (3, .int (x3)), (4, .int (x4)), (5, .int (x5)), (6, .int (x6))] [] f) : ∀ (x1 : Int32) (x2 : Int32) (x4 : Int32) (x5 : Int32) (x6 : Int32) (x7 : Int32) (r : Int32) (hr : e_wantedBy_100 R self27 x1 x2 x4 x5 x6 x7 = some r) (f : Nat → va_E) (w : RW E f R) (hf : Fr RfK f0 f), G E (6, yX12_wantedBy, 8, (some .int), sz, QA) cX12_wantedBy (gO E (6, yX12_wantedBy, 8, (some .int), sz, QA) (fun v g => v = some (.int r) ∧ RW E g R ∧ Fr RfK f0 g, fun _ _ => False)) 100 [(0, .ref (gAd E (56))), (1, .int (x1)), (2, .int (x2)), (4, .int (x4)), (5, .int (x5)), (6, .int (x6)), (7, .int (x7))] [] f := by
  intro x1 x2 x4 x5 x6 x7 r hr f w hf
  obtain ⟨az, sy, r0⟩ := w
  unfold e_wantedBy_100 at hr
  refine G.go tv_X12_wantedBy 2 104 [(0, .ref (gAd E (56))), (1, .int (x1)), (2, .int (x2)), (4, .int (x4)), (5, .int (x5)), (6, .int (x6)), (7, .int (x7))] [.int ((72 : Int32)), .int (x6)] rfl ?_
  refine G.cmp_lt 118 (tbd tv_X12_wantedBy rfl) (by decide) (fun c104 => ?_) (fun c104 => ?_)
  · replace hr := ite_t c104 hr
    refine G.less [(0, .ref (gAd E (56))), (1, .int (x1)), (2, .int (x2)), (4, .int (x4)), (5, .int (x5)), (6, .int (x6)), (7, .int (x7))] [0, 1, 2, 3, 4, 5, 6] rfl ?_
    exact l_X12_wantedBy_118 E f0 sz QA hE R _ hs27 _ _ _ _ _ _ _ hr _ ⟨_, _, r0⟩ hf
  · replace hr := ite_f c104 hr
    refine G.go tv_X12_wantedBy 1 109 [(0, .ref (gAd E (56))), (1, .int (x1)), (2, .int (x2)), (4, .int (x4)), (5, .int (x5)), (6, .int (x6)), (7, .int (x7))] [.int (x4)] rfl ?_
    refine G.if_ne 118 (tbd tv_X12_wantedBy rfl) (by decide) (fun c109 => ?_) (fun c109 => ?_)
    · replace hr := ite_f c109 hr
      refine G.less [(0, .ref (gAd E (56))), (1, .int (x1)), (2, .int (x2)), (4, .int (x4)), (5, .int (x5)), (6, .int (x6)), (7, .int (x7))] [0, 1, 2, 3, 4, 5, 6] rfl ?_
      exact l_X12_wantedBy_118 E f0 sz QA hE R _ hs27 _ _ _ _ _ _ _ hr _ ⟨_, _, r0⟩ hf
    · replace hr := ite_t c109 hr
      refine G.go tv_X12_wantedBy 6 122 [(0, .ref (gAd E (56))), (1, .int (x1)), (2, .int ((x2) + ((1 : Int32)))), (4, .int (x4)), (5, .int (x5)), (6, .int (x6)), (7, .int (x7))] [.int (x4)] rfl ?_
      refine G.if_ne 132 (tbd tv_X12_wantedBy rfl) (by decide) (fun c122 => ?_) (fun c122 => ?_)
      · replace hr := ite_f c122 hr
        refine G.less [(0, .ref (gAd E (56))), (1, .int (x1)), (2, .int ((x2) + ((1 : Int32)))), (5, .int (x5)), (6, .int (x6)), (7, .int (x7))] [0, 1, 2, 4, 5, 6] rfl ?_
        exact l_X12_wantedBy_132 E f0 sz QA hE R _ hs27 _ _ _ _ _ _ hr _ ⟨_, _, r0⟩ hf
      · replace hr := ite_t c122 hr
        refine G.go tv_X12_wantedBy 2 129 [(0, .ref (gAd E (56))), (1, .int (x1)), (2, .int ((x2) + ((1 : Int32)))), (4, .int (x4)), (5, .int (x5)), (6, .int (x6)), (7, .int (x7))] [.int ((72 : Int32)), .int (x6)] rfl ?_
        refine G.cmp_lt 136 (tbd tv_X12_wantedBy rfl) (by decide) (fun c129 => ?_) (fun c129 => ?_)
        · replace hr := ite_t c129 hr
          refine G.go tv_X12_wantedBy 6 27 [(0, .ref (gAd E (56))), (1, .int (x1)), (2, .int ((x2) + ((1 : Int32)))), (4, .int ((0 : Int32))), (5, .int (x5)), (6, .int (x6 + (1 : Int32))), (7, .int (x7)), (3, .int (x7))] [] rfl ?_
          refine G.less [(0, .ref (gAd E (56))), (1, .int (x1)), (2, .int ((x2) + ((1 : Int32)))), (3, .int (x7)), (4, .int ((0 : Int32))), (5, .int (x5)), (6, .int (x6 + (1 : Int32)))] [0, 1, 2, 7, 3, 4, 5] rfl ?_
          exact hs27 _ _ _ _ _ _ _ hr _ ⟨_, _, r0⟩ hf
        · replace hr := ite_f c129 hr
          refine G.less [(0, .ref (gAd E (56))), (1, .int (x1)), (2, .int ((x2) + ((1 : Int32)))), (5, .int (x5)), (6, .int (x6)), (7, .int (x7))] [0, 1, 2, 4, 5, 6] rfl ?_
          exact l_X12_wantedBy_132 E f0 sz QA hE R _ hs27 _ _ _ _ _ _ hr _ ⟨_, _, r0⟩ hf
set_option maxRecDepth 100000 in
set_option maxHeartbeats 4000000 in
theorem l_X12_wantedBy_96 (E : gE) (f0 : Nat → va_E) (sz : Nat) (QA : Nat → Prop) (hE : 94 ≤ gN E) (R : RfT) (self27 : Int32 → Int32 → Int32 → Int32 → Int32 → Int32 → Option (Int32)) (hs27 : ∀ (x1 : Int32) (x2 : Int32) (x3 : Int32) (x4 : Int32) (x5 : Int32) (x6 : Int32) (r : Int32) (hr : self27 x1 x2 x3 x4 x5 x6 = some r) (f : Nat → va_E) (w : RW E f R) (hf : Fr RfK f0 f), G E (6, yX12_wantedBy, 8, (some .int), sz, QA) cX12_wantedBy (gO E (6, yX12_wantedBy, 8, (some .int), sz, QA) (fun v g => v = some (.int r) ∧ RW E g R ∧ Fr RfK f0 g, fun _ _ => False)) 27 [(0, .ref (gAd E (56))), (1, .int (x1)), (2, .int (x2)), (3, .int (x3)), (4, .int (x4)), (5, .int (x5)), (6, .int (x6))] [] f) : ∀ (x1 : Int32) (x2 : Int32) (x4 : Int32) (x5 : Int32) (x6 : Int32) (x7 : Int32) (r : Int32) (hr : e_wantedBy_96 R self27 x1 x2 x4 x5 x6 x7 = some r) (f : Nat → va_E) (w : RW E f R) (hf : Fr RfK f0 f), G E (6, yX12_wantedBy, 8, (some .int), sz, QA) cX12_wantedBy (gO E (6, yX12_wantedBy, 8, (some .int), sz, QA) (fun v g => v = some (.int r) ∧ RW E g R ∧ Fr RfK f0 g, fun _ _ => False)) 96 [(0, .ref (gAd E (56))), (1, .int (x1)), (2, .int (x2)), (4, .int (x4)), (5, .int (x5)), (6, .int (x6)), (7, .int (x7))] [] f := by
  intro x1 x2 x4 x5 x6 x7 r hr f w hf
  obtain ⟨az, sy, r0⟩ := w
  unfold e_wantedBy_96 at hr
  refine G.go tv_X12_wantedBy 4 100 [(0, .ref (gAd E (56))), (1, .int (x1)), (2, .int ((x2) + ((1 : Int32)))), (4, .int (x4)), (5, .int (x5)), (6, .int (x6)), (7, .int (x7))] [] rfl ?_
  refine G.less [(0, .ref (gAd E (56))), (1, .int (x1)), (2, .int ((x2) + ((1 : Int32)))), (4, .int (x4)), (5, .int (x5)), (6, .int (x6)), (7, .int (x7))] [0, 1, 2, 3, 4, 5, 6] rfl ?_
  exact l_X12_wantedBy_100 E f0 sz QA hE R _ hs27 _ _ _ _ _ _ _ hr _ ⟨_, _, r0⟩ hf
set_option maxRecDepth 100000 in
set_option maxHeartbeats 4000000 in
theorem l_X12_wantedBy_78 (E : gE) (f0 : Nat → va_E) (sz : Nat) (QA : Nat → Prop) (hE : 94 ≤ gN E) (R : RfT) (self27 : Int32 → Int32 → Int32 → Int32 → Int32 → Int32 → Option (Int32)) (hs27 : ∀ (x1 : Int32) (x2 : Int32) (x3 : Int32) (x4 : Int32) (x5 : Int32) (x6 : Int32) (r : Int32) (hr : self27 x1 x2 x3 x4 x5 x6 = some r) (f : Nat → va_E) (w : RW E f R) (hf : Fr RfK f0 f), G E (6, yX12_wantedBy, 8, (some .int), sz, QA) cX12_wantedBy (gO E (6, yX12_wantedBy, 8, (some .int), sz, QA) (fun v g => v = some (.int r) ∧ RW E g R ∧ Fr RfK f0 g, fun _ _ => False)) 27 [(0, .ref (gAd E (56))), (1, .int (x1)), (2, .int (x2)), (3, .int (x3)), (4, .int (x4)), (5, .int (x5)), (6, .int (x6))] [] f) : ∀ (x1 : Int32) (x2 : Int32) (x3 : Int32) (x4 : Int32) (x5 : Int32) (x6 : Int32) (x7 : Int32) (r : Int32) (hr : e_wantedBy_78 R self27 x1 x2 x3 x4 x5 x6 x7 = some r) (f : Nat → va_E) (w : RW E f R) (hf : Fr RfK f0 f), G E (6, yX12_wantedBy, 8, (some .int), sz, QA) cX12_wantedBy (gO E (6, yX12_wantedBy, 8, (some .int), sz, QA) (fun v g => v = some (.int r) ∧ RW E g R ∧ Fr RfK f0 g, fun _ _ => False)) 78 [(0, .ref (gAd E (56))), (1, .int (x1)), (2, .int (x2)), (3, .int (x3)), (4, .int (x4)), (5, .int (x5)), (6, .int (x6)), (7, .int (x7))] [] f := by
  intro x1 x2 x3 x4 x5 x6 x7 r hr f w hf
  obtain ⟨az, sy, r0⟩ := w
  unfold e_wantedBy_78 at hr
  refine G.go tv_X12_wantedBy 2 81 [(0, .ref (gAd E (56))), (1, .int (x1)), (2, .int (x2)), (3, .int (x3)), (4, .int (x4)), (5, .int (x5)), (6, .int (x6)), (7, .int (x7))] [.int (x3), .int (x7)] rfl ?_
  refine G.cmp_eq 96 (tbd tv_X12_wantedBy rfl) (by decide) (fun c81 => ?_) (fun c81 => ?_)
  · replace hr := ite_t c81 hr
    refine G.less [(0, .ref (gAd E (56))), (1, .int (x1)), (2, .int (x2)), (4, .int (x4)), (5, .int (x5)), (6, .int (x6)), (7, .int (x7))] [0, 1, 2, 4, 5, 6, 7] rfl ?_
    exact l_X12_wantedBy_96 E f0 sz QA hE R _ hs27 _ _ _ _ _ _ _ hr _ ⟨_, _, r0⟩ hf
  · replace hr := ite_f c81 hr
    refine G.go tv_X12_wantedBy 2 87 [(0, .ref (gAd E (56))), (1, .int (x1)), (2, .int (x2)), (3, .int (x3)), (4, .int (x4)), (5, .int (x5)), (6, .int (x6)), (7, .int (x7))] [.int ((-1 : Int32)), .int (x7)] rfl ?_
    refine G.cmp_eq 96 (tbd tv_X12_wantedBy rfl) (by decide) (fun c87 => ?_) (fun c87 => ?_)
    · replace hr := ite_t c87 hr
      refine G.less [(0, .ref (gAd E (56))), (1, .int (x1)), (2, .int (x2)), (4, .int (x4)), (5, .int (x5)), (6, .int (x6)), (7, .int (x7))] [0, 1, 2, 4, 5, 6, 7] rfl ?_
      exact l_X12_wantedBy_96 E f0 sz QA hE R _ hs27 _ _ _ _ _ _ _ hr _ ⟨_, _, r0⟩ hf
    · replace hr := ite_f c87 hr
      refine G.go tv_X12_wantedBy 5 100 [(0, .ref (gAd E (56))), (1, .int (x1)), (2, .int ((x2) + ((2 : Int32)))), (3, .int (x3)), (4, .int (x4)), (5, .int (x5)), (6, .int (x6)), (7, .int (x7))] [] rfl ?_
      refine G.less [(0, .ref (gAd E (56))), (1, .int (x1)), (2, .int ((x2) + ((2 : Int32)))), (4, .int (x4)), (5, .int (x5)), (6, .int (x6)), (7, .int (x7))] [0, 1, 2, 4, 5, 6, 7] rfl ?_
      exact l_X12_wantedBy_100 E f0 sz QA hE R _ hs27 _ _ _ _ _ _ _ hr _ ⟨_, _, r0⟩ hf
set_option maxRecDepth 100000 in
set_option maxHeartbeats 4000000 in
theorem l_X12_wantedBy_27 (E : gE) (f0 : Nat → va_E) (sz : Nat) (QA : Nat → Prop) (hE : 94 ≤ gN E) (R : RfT) : ∀ (n : Nat), ∀ (x1 : Int32) (x2 : Int32) (x3 : Int32) (x4 : Int32) (x5 : Int32) (x6 : Int32) (r : Int32) (hr : e_wantedBy_27 R n x1 x2 x3 x4 x5 x6 = some r) (f : Nat → va_E) (w : RW E f R) (hf : Fr RfK f0 f), G E (6, yX12_wantedBy, 8, (some .int), sz, QA) cX12_wantedBy (gO E (6, yX12_wantedBy, 8, (some .int), sz, QA) (fun v g => v = some (.int r) ∧ RW E g R ∧ Fr RfK f0 g, fun _ _ => False)) 27 [(0, .ref (gAd E (56))), (1, .int (x1)), (2, .int (x2)), (3, .int (x3)), (4, .int (x4)), (5, .int (x5)), (6, .int (x6))] [] f := by
  intro n
  induction n with
  | zero =>
    intro x1 x2 x3 x4 x5 x6 r hr f w hf
    cases hr
  | succ n ih =>
    intro x1 x2 x3 x4 x5 x6 r hr f w hf
    obtain ⟨az, sy, r0⟩ := w
    unfold e_wantedBy_27 at hr
    refine G.go tv_X12_wantedBy 2 31 [(0, .ref (gAd E (56))), (1, .int (x1)), (2, .int (x2)), (3, .int (x3)), (4, .int (x4)), (5, .int (x5)), (6, .int (x6))] [.int (x5), .int (x6)] rfl ?_
    refine G.cmp_ge 148 (tbd tv_X12_wantedBy rfl) (by decide) (fun c31 => ?_) (fun c31 => ?_)
    · replace hr := ite_t c31 hr
      refine G.go tv_X12_wantedBy 1 149 [(0, .ref (gAd E (56))), (1, .int (x1)), (2, .int (x2)), (3, .int (x3)), (4, .int (x4)), (5, .int (x5)), (6, .int (x6))] [.int (x2)] rfl ?_
      cases hr
      exact G.iret rfl rfl ⟨rfl, ⟨_, _, r0⟩, hf⟩ (tbd tv_X12_wantedBy rfl)
    · replace hr := ite_f c31 hr
      refine G.go tv_X12_wantedBy 3 38 [(0, .ref (gAd E (56))), (1, .int (x1)), (2, .int (x2)), (3, .int (x3)), (4, .int (x4)), (5, .int (x5)), (6, .int (x6))] [.int (x6), .int (x1), .ref (gAd E (56))] rfl ?_
      obtain ⟨v105, hv105, hr⟩ := bnd_s hr
      refine G.callV (56) [.int (x1), .int (x6)] [] (k_X12_blockOf E _ hE R ⟨_, _, r0⟩ x1 x6 v105 hv105) cls_X12 (by omega) (r0.o) cw_X12_323 w_2507 w_105 (Nat.le_of_ble_eq_true rfl) rfl (Nat.le_of_ble_eq_true rfl) (tbd tv_X12_wantedBy rfl) (fun v105w f105 q105 => ?_) (fun _ _ h => h.elim)
      obtain ⟨rfl, ⟨az105, sy105, r105⟩, fa105⟩ := q105
      refine G.eqs [.int (v105)] rfl ?_
      refine G.if_eq 142 (tbd tv_X12_wantedBy rfl) (by decide) (fun c41 => ?_) (fun c41 => ?_)
      · replace hr := ite_t c41 hr
        refine G.go tv_X12_wantedBy 2 27 [(0, .ref (gAd E (56))), (1, .int (x1)), (2, .int (x2)), (3, .int (x3)), (4, .int (x4)), (5, .int (x5)), (6, .int (x6 + (1 : Int32)))] [] rfl ?_
        refine G.less [(0, .ref (gAd E (56))), (1, .int (x1)), (2, .int (x2)), (3, .int (x3)), (4, .int (x4)), (5, .int (x5)), (6, .int (x6 + (1 : Int32)))] [0, 1, 2, 3, 4, 5, 6] rfl ?_
        exact ih _ _ _ _ _ _ _ hr _ ⟨_, _, r105⟩ (hf.tr fa105 (fun _ h => h))
      · replace hr := ite_f c41 hr
        refine G.go tv_X12_wantedBy 2 48 [(0, .ref (gAd E (56))), (1, .int (x1)), (2, .int (x2)), (3, .int (x3)), (4, .int (x4)), (5, .int (x5)), (6, .int (x6))] [.int ((8 : Int32)), .int (x6)] rfl ?_
        refine G.cmp_ge 55 (tbd tv_X12_wantedBy rfl) (by decide) (fun c48 => ?_) (fun c48 => ?_)
        · replace hr := ite_t c48 hr
          refine G.go tv_X12_wantedBy 2 59 [(0, .ref (gAd E (56))), (1, .int (x1)), (2, .int (x2)), (3, .int (x3)), (4, .int (x4)), (5, .int (x5)), (6, .int (x6))] [.int ((72 : Int32)), .int (x6)] rfl ?_
          refine G.cmp_ge 66 (tbd tv_X12_wantedBy rfl) (by decide) (fun c59 => ?_) (fun c59 => ?_)
          · replace hr := ite_t c59 hr
            refine G.go tv_X12_wantedBy 5 74 [(0, .ref (gAd E (56))), (1, .int (x1)), (2, .int (x2)), (3, .int (x3)), (4, .int (x4)), (5, .int (x5)), (6, .int (x6))] [.int ((64 : Int32)), .int ((x6) - ((72 : Int32))), .int ((1 : Int32))] rfl ?_
            refine G.idiv (by decide) (tbd tv_X12_wantedBy rfl) ?_
            refine G.go tv_X12_wantedBy 2 78 [(0, .ref (gAd E (56))), (1, .int (x1)), (2, .int (x2)), (3, .int (x3)), (4, .int (x4)), (5, .int (x5)), (6, .int (x6)), (7, .int (((1 : Int32)) + (((x6) - ((72 : Int32))) / ((64 : Int32)))))] [] rfl ?_
            obtain ⟨v106, e106, hr⟩ := nm_s hr
            refine G.eql [(0, .ref (gAd E (56))), (1, .int (x1)), (2, .int (x2)), (3, .int (x3)), (4, .int (x4)), (5, .int (x5)), (6, .int (x6)), (7, .int (v106))] (by rw [e106]) ?_
            refine G.less [(0, .ref (gAd E (56))), (1, .int (x1)), (2, .int (x2)), (3, .int (x3)), (4, .int (x4)), (5, .int (x5)), (6, .int (x6)), (7, .int (v106))] [0, 1, 2, 3, 4, 5, 6, 7] rfl ?_
            exact l_X12_wantedBy_78 E f0 sz QA hE R _ ih _ _ _ _ _ _ _ _ hr _ ⟨_, _, r105⟩ (hf.tr fa105 (fun _ h => h))
          · replace hr := ite_f c59 hr
            refine G.go tv_X12_wantedBy 3 78 [(0, .ref (gAd E (56))), (1, .int (x1)), (2, .int (x2)), (3, .int (x3)), (4, .int (x4)), (5, .int (x5)), (6, .int (x6)), (7, .int ((0 : Int32)))] [] rfl ?_
            refine G.less [(0, .ref (gAd E (56))), (1, .int (x1)), (2, .int (x2)), (3, .int (x3)), (4, .int (x4)), (5, .int (x5)), (6, .int (x6)), (7, .int ((0 : Int32)))] [0, 1, 2, 3, 4, 5, 6, 7] rfl ?_
            exact l_X12_wantedBy_78 E f0 sz QA hE R _ ih _ _ _ _ _ _ _ _ hr _ ⟨_, _, r105⟩ (hf.tr fa105 (fun _ h => h))
        · replace hr := ite_f c48 hr
          refine G.go tv_X12_wantedBy 3 78 [(0, .ref (gAd E (56))), (1, .int (x1)), (2, .int (x2)), (3, .int (x3)), (4, .int (x4)), (5, .int (x5)), (6, .int (x6)), (7, .int ((-1 : Int32)))] [] rfl ?_
          refine G.less [(0, .ref (gAd E (56))), (1, .int (x1)), (2, .int (x2)), (3, .int (x3)), (4, .int (x4)), (5, .int (x5)), (6, .int (x6)), (7, .int ((-1 : Int32)))] [0, 1, 2, 3, 4, 5, 6, 7] rfl ?_
          exact l_X12_wantedBy_78 E f0 sz QA hE R _ ih _ _ _ _ _ _ _ _ hr _ ⟨_, _, r105⟩ (hf.tr fa105 (fun _ h => h))
set_option maxRecDepth 100000 in
set_option maxHeartbeats 4000000 in
theorem k_X12_wantedBy (E : gE) (f : Nat → va_E) (hE : 94 ≤ gN E) (R : RfT) (w : RW E f R) (a0 : Int32) (r : Int32) (hr : e_wantedBy R a0 = some r) : Ct E 6 yX12_wantedBy cX12_wantedBy 8 (some .int) [.ref (gAd E (56)), .int (a0)] f (fun v g => v = some (.int r) ∧ RW E g R ∧ Fr RfK f g, fun _ _ => False) := by
  obtain ⟨az, sy, r0⟩ := w
  refine Ct.of (by decide) (Nat.le_of_ble_eq_true rfl) (fun sz => ?_)
  refine G.eql [(0, .ref (gAd E (56))), (1, .int (a0))] rfl ?_
  unfold e_wantedBy at hr
  refine G.go tv_X12_wantedBy 8 9 [(0, .ref (gAd E (56))), (1, .int (a0)), (2, .int ((0 : Int32))), (3, .int ((-1 : Int32))), (4, .int ((0 : Int32)))] [.int (a0), .ref (gAd E (56))] rfl ?_
  obtain ⟨v103, hv103, hr⟩ := bnd_s hr
  refine G.callV (56) [.int (a0)] [] (k_X12_size E _ hE R ⟨_, _, r0⟩ a0 v103 hv103) cls_X12 (by omega) (r0.o) cw_X12_344 w_2503 w_104 (Nat.le_of_ble_eq_true rfl) rfl (Nat.le_of_ble_eq_true rfl) (tbd tv_X12_wantedBy rfl) (fun v103w f103 q103 => ?_) (fun _ _ h => h.elim)
  obtain ⟨rfl, ⟨az103, sy103, r103⟩, fa103⟩ := q103
  refine G.eqs [.int (v103)] rfl ?_
  refine G.go tv_X12_wantedBy 5 21 [(0, .ref (gAd E (56))), (1, .int (a0)), (2, .int ((0 : Int32))), (3, .int ((-1 : Int32))), (4, .int ((0 : Int32)))] [.int ((128 : Int32)), .int (((v103) + ((128 : Int32))) - ((1 : Int32)))] rfl ?_
  refine G.idiv (by decide) (tbd tv_X12_wantedBy rfl) ?_
  refine G.go tv_X12_wantedBy 1 24 [(0, .ref (gAd E (56))), (1, .int (a0)), (2, .int ((0 : Int32))), (3, .int ((-1 : Int32))), (4, .int ((0 : Int32))), (5, .int ((((v103) + ((128 : Int32))) - ((1 : Int32))) / ((128 : Int32))))] [] rfl ?_
  obtain ⟨v104, e104, hr⟩ := nm_s hr
  refine G.eql [(0, .ref (gAd E (56))), (1, .int (a0)), (2, .int ((0 : Int32))), (3, .int ((-1 : Int32))), (4, .int ((0 : Int32))), (5, .int (v104))] (by rw [e104]) ?_
  refine G.go tv_X12_wantedBy 2 27 [(0, .ref (gAd E (56))), (1, .int (a0)), (2, .int ((0 : Int32))), (3, .int ((-1 : Int32))), (4, .int ((0 : Int32))), (5, .int (v104)), (6, .int ((0 : Int32)))] [] rfl ?_
  refine G.less [(0, .ref (gAd E (56))), (1, .int (a0)), (2, .int ((0 : Int32))), (3, .int ((-1 : Int32))), (4, .int ((0 : Int32))), (5, .int (v104)), (6, .int ((0 : Int32)))] [0, 1, 2, 3, 4, 5, 6] rfl ?_
  exact l_X12_wantedBy_27 E f sz _ hE R _ _ _ _ _ _ _ _ hr _ ⟨_, _, r103⟩ (Fr.rf.tr fa103 (fun _ h => h))
def tb_X12_tablesPunched : List (Nat × Instr × Nat) := [(0, .iconst 0, 1), (1, .istore 5, 2), (3, .iconst (-1), 1), (4, .istore 6, 2), (6, .iload_n 2, 1), (7, .sipush 128, 3), (10, .idiv, 1), (11, .istore 7, 2), (13, .sipush 128, 3), (16, .iload 7, 2), (18, .imul, 1), (19, .iload_n 3, 1), (20, .if_icmp .ge 98, 3), (23, .iload 7, 2), (25, .bipush 8, 2), (27, .if_icmp .ge 7, 3), (30, .iconst (-1), 1), (31, .goto 24, 3), (34, .iload 7, 2), (36, .bipush 72, 2), (38, .if_icmp .ge 7, 3), (41, .iconst 0, 1), (42, .goto 13, 3), (45, .iconst 1, 1), (46, .iload 7, 2), (48, .bipush 72, 2), (50, .isub, 1), (51, .bipush 64, 2), (53, .idiv, 1), (54, .iadd, 1), (55, .istore 8, 2), (57, .iload 8, 2), (59, .iload 6, 2), (61, .if_icmp .eq 51, 3), (64, .iload 8, 2), (66, .iconst (-1), 1), (67, .if_icmp .eq 45, 3), (70, .sipush 128, 3), (73, .iload 7, 2), (75, .imul, 1), (76, .iload_n 2, 1), (77, .if_icmp .lt 35, 3), (80, .sipush 128, 3), (83, .iload 7, 2), (85, .imul, 1), (86, .sipush 128, 3), (89, .iadd, 1), (90, .iload 4, 2), (92, .if_icmp .gt 20, 3), (95, .aload_n 0, 1), (96, .iload_n 1, 1), (97, .iload 7, 2), (99, .invokevirtual 323, 3), (102, .ifCond .eq 10, 3), (105, .iinc 5 1, 3), (108, .iload 8, 2), (110, .istore 6, 2), (112, .iinc 7 1, 3), (115, .goto (-102), 3), (118, .iload 5, 2), (120, .ireturn, 1)]
theorem tv_X12_tablesPunched : Tv cX12_tablesPunched tb_X12_tablesPunched := by
  unfold Tv
  decide +kernel
def e_tablesPunched_57 (R : RfT) (self13 : Int32 → Int32 → Int32 → Int32 → Int32 → Int32 → Int32 → Option (Int32)) (x1 : Int32) (x2 : Int32) (x3 : Int32) (x4 : Int32) (x5 : Int32) (x6 : Int32) (x7 : Int32) (x8 : Int32) : Option (Int32) := if x8 = x6 then self13 x1 x2 x3 x4 x5 x6 (x7 + (1 : Int32)) else if x8 = ((-1 : Int32)) then self13 x1 x2 x3 x4 x5 x6 (x7 + (1 : Int32)) else if (((128 : Int32)) * (x7)) < x2 then self13 x1 x2 x3 x4 x5 x6 (x7 + (1 : Int32)) else if x4 < ((((128 : Int32)) * (x7)) + ((128 : Int32))) then self13 x1 x2 x3 x4 x5 x6 (x7 + (1 : Int32)) else bnd (e_blockOf R x1 x7) (fun v108 => if v108 = 0 then self13 x1 x2 x3 x4 x5 x6 (x7 + (1 : Int32)) else self13 x1 x2 x3 x4 (x5 + (1 : Int32)) x8 (x7 + (1 : Int32)))
def e_tablesPunched_13 (R : RfT) : Nat → Int32 → Int32 → Int32 → Int32 → Int32 → Int32 → Int32 → Option (Int32)
  | 0, _, _, _, _, _, _, _ => none
  | n + 1, x1, x2, x3, x4, x5, x6, x7 => if x3 ≤ (((128 : Int32)) * (x7)) then some x5 else if ((8 : Int32)) ≤ x7 then if ((72 : Int32)) ≤ x7 then nm (((1 : Int32)) + (((x7) - ((72 : Int32))) / ((64 : Int32)))) (fun v107 => e_tablesPunched_57 R (e_tablesPunched_13 R n) x1 x2 x3 x4 x5 x6 x7 v107) else e_tablesPunched_57 R (e_tablesPunched_13 R n) x1 x2 x3 x4 x5 x6 x7 ((0 : Int32)) else e_tablesPunched_57 R (e_tablesPunched_13 R n) x1 x2 x3 x4 x5 x6 x7 ((-1 : Int32))
def e_tablesPunched (R : RfT) (a0 : Int32) (a1 : Int32) (a2 : Int32) (a3 : Int32) : Option (Int32) := e_tablesPunched_13 R fuL a0 a1 a2 a3 ((0 : Int32)) ((-1 : Int32)) ((a1) / ((128 : Int32)))
set_option maxRecDepth 100000 in
set_option maxHeartbeats 4000000 in
theorem l_X12_tablesPunched_57 (E : gE) (f0 : Nat → va_E) (sz : Nat) (QA : Nat → Prop) (hE : 94 ≤ gN E) (R : RfT) (self13 : Int32 → Int32 → Int32 → Int32 → Int32 → Int32 → Int32 → Option (Int32)) (hs13 : ∀ (x1 : Int32) (x2 : Int32) (x3 : Int32) (x4 : Int32) (x5 : Int32) (x6 : Int32) (x7 : Int32) (r : Int32) (hr : self13 x1 x2 x3 x4 x5 x6 x7 = some r) (f : Nat → va_E) (w : RW E f R) (hf : Fr RfK f0 f), G E (6, yX12_tablesPunched, 9, (some .int), sz, QA) cX12_tablesPunched (gO E (6, yX12_tablesPunched, 9, (some .int), sz, QA) (fun v g => v = some (.int r) ∧ RW E g R ∧ Fr RfK f0 g, fun _ _ => False)) 13 [(0, .ref (gAd E (56))), (1, .int (x1)), (2, .int (x2)), (3, .int (x3)), (4, .int (x4)), (5, .int (x5)), (6, .int (x6)), (7, .int (x7))] [] f) : ∀ (x1 : Int32) (x2 : Int32) (x3 : Int32) (x4 : Int32) (x5 : Int32) (x6 : Int32) (x7 : Int32) (x8 : Int32) (r : Int32) (hr : e_tablesPunched_57 R self13 x1 x2 x3 x4 x5 x6 x7 x8 = some r) (f : Nat → va_E) (w : RW E f R) (hf : Fr RfK f0 f), G E (6, yX12_tablesPunched, 9, (some .int), sz, QA) cX12_tablesPunched (gO E (6, yX12_tablesPunched, 9, (some .int), sz, QA) (fun v g => v = some (.int r) ∧ RW E g R ∧ Fr RfK f0 g, fun _ _ => False)) 57 [(0, .ref (gAd E (56))), (1, .int (x1)), (2, .int (x2)), (3, .int (x3)), (4, .int (x4)), (5, .int (x5)), (6, .int (x6)), (7, .int (x7)), (8, .int (x8))] [] f := by
  intro x1 x2 x3 x4 x5 x6 x7 x8 r hr f w hf
  obtain ⟨az, sy, r0⟩ := w
  unfold e_tablesPunched_57 at hr
  refine G.go tv_X12_tablesPunched 2 61 [(0, .ref (gAd E (56))), (1, .int (x1)), (2, .int (x2)), (3, .int (x3)), (4, .int (x4)), (5, .int (x5)), (6, .int (x6)), (7, .int (x7)), (8, .int (x8))] [.int (x6), .int (x8)] rfl ?_
  refine G.cmp_eq 112 (tbd tv_X12_tablesPunched rfl) (by decide) (fun c61 => ?_) (fun c61 => ?_)
  · replace hr := ite_t c61 hr
    refine G.go tv_X12_tablesPunched 2 13 [(0, .ref (gAd E (56))), (1, .int (x1)), (2, .int (x2)), (3, .int (x3)), (4, .int (x4)), (5, .int (x5)), (6, .int (x6)), (7, .int (x7 + (1 : Int32))), (8, .int (x8))] [] rfl ?_
    refine G.less [(0, .ref (gAd E (56))), (1, .int (x1)), (2, .int (x2)), (3, .int (x3)), (4, .int (x4)), (5, .int (x5)), (6, .int (x6)), (7, .int (x7 + (1 : Int32)))] [0, 1, 2, 3, 4, 5, 6, 7] rfl ?_
    exact hs13 _ _ _ _ _ _ _ _ hr _ ⟨_, _, r0⟩ hf
  · replace hr := ite_f c61 hr
    refine G.go tv_X12_tablesPunched 2 67 [(0, .ref (gAd E (56))), (1, .int (x1)), (2, .int (x2)), (3, .int (x3)), (4, .int (x4)), (5, .int (x5)), (6, .int (x6)), (7, .int (x7)), (8, .int (x8))] [.int ((-1 : Int32)), .int (x8)] rfl ?_
    refine G.cmp_eq 112 (tbd tv_X12_tablesPunched rfl) (by decide) (fun c67 => ?_) (fun c67 => ?_)
    · replace hr := ite_t c67 hr
      refine G.go tv_X12_tablesPunched 2 13 [(0, .ref (gAd E (56))), (1, .int (x1)), (2, .int (x2)), (3, .int (x3)), (4, .int (x4)), (5, .int (x5)), (6, .int (x6)), (7, .int (x7 + (1 : Int32))), (8, .int (x8))] [] rfl ?_
      refine G.less [(0, .ref (gAd E (56))), (1, .int (x1)), (2, .int (x2)), (3, .int (x3)), (4, .int (x4)), (5, .int (x5)), (6, .int (x6)), (7, .int (x7 + (1 : Int32)))] [0, 1, 2, 3, 4, 5, 6, 7] rfl ?_
      exact hs13 _ _ _ _ _ _ _ _ hr _ ⟨_, _, r0⟩ hf
    · replace hr := ite_f c67 hr
      refine G.go tv_X12_tablesPunched 4 77 [(0, .ref (gAd E (56))), (1, .int (x1)), (2, .int (x2)), (3, .int (x3)), (4, .int (x4)), (5, .int (x5)), (6, .int (x6)), (7, .int (x7)), (8, .int (x8))] [.int (x2), .int (((128 : Int32)) * (x7))] rfl ?_
      refine G.cmp_lt 112 (tbd tv_X12_tablesPunched rfl) (by decide) (fun c77 => ?_) (fun c77 => ?_)
      · replace hr := ite_t c77 hr
        refine G.go tv_X12_tablesPunched 2 13 [(0, .ref (gAd E (56))), (1, .int (x1)), (2, .int (x2)), (3, .int (x3)), (4, .int (x4)), (5, .int (x5)), (6, .int (x6)), (7, .int (x7 + (1 : Int32))), (8, .int (x8))] [] rfl ?_
        refine G.less [(0, .ref (gAd E (56))), (1, .int (x1)), (2, .int (x2)), (3, .int (x3)), (4, .int (x4)), (5, .int (x5)), (6, .int (x6)), (7, .int (x7 + (1 : Int32)))] [0, 1, 2, 3, 4, 5, 6, 7] rfl ?_
        exact hs13 _ _ _ _ _ _ _ _ hr _ ⟨_, _, r0⟩ hf
      · replace hr := ite_f c77 hr
        refine G.go tv_X12_tablesPunched 6 92 [(0, .ref (gAd E (56))), (1, .int (x1)), (2, .int (x2)), (3, .int (x3)), (4, .int (x4)), (5, .int (x5)), (6, .int (x6)), (7, .int (x7)), (8, .int (x8))] [.int (x4), .int ((((128 : Int32)) * (x7)) + ((128 : Int32)))] rfl ?_
        refine G.cmp_gt 112 (tbd tv_X12_tablesPunched rfl) (by decide) (fun c92 => ?_) (fun c92 => ?_)
        · replace hr := ite_t c92 hr
          refine G.go tv_X12_tablesPunched 2 13 [(0, .ref (gAd E (56))), (1, .int (x1)), (2, .int (x2)), (3, .int (x3)), (4, .int (x4)), (5, .int (x5)), (6, .int (x6)), (7, .int (x7 + (1 : Int32))), (8, .int (x8))] [] rfl ?_
          refine G.less [(0, .ref (gAd E (56))), (1, .int (x1)), (2, .int (x2)), (3, .int (x3)), (4, .int (x4)), (5, .int (x5)), (6, .int (x6)), (7, .int (x7 + (1 : Int32)))] [0, 1, 2, 3, 4, 5, 6, 7] rfl ?_
          exact hs13 _ _ _ _ _ _ _ _ hr _ ⟨_, _, r0⟩ hf
        · replace hr := ite_f c92 hr
          refine G.go tv_X12_tablesPunched 3 99 [(0, .ref (gAd E (56))), (1, .int (x1)), (2, .int (x2)), (3, .int (x3)), (4, .int (x4)), (5, .int (x5)), (6, .int (x6)), (7, .int (x7)), (8, .int (x8))] [.int (x7), .int (x1), .ref (gAd E (56))] rfl ?_
          obtain ⟨v108, hv108, hr⟩ := bnd_s hr
          refine G.callV (56) [.int (x1), .int (x7)] [] (k_X12_blockOf E _ hE R ⟨_, _, r0⟩ x1 x7 v108 hv108) cls_X12 (by omega) (r0.o) cw_X12_323 w_2507 w_105 (Nat.le_of_ble_eq_true rfl) rfl (Nat.le_of_ble_eq_true rfl) (tbd tv_X12_tablesPunched rfl) (fun v108w f108 q108 => ?_) (fun _ _ h => h.elim)
          obtain ⟨rfl, ⟨az108, sy108, r108⟩, fa108⟩ := q108
          refine G.eqs [.int (v108)] rfl ?_
          refine G.if_eq 112 (tbd tv_X12_tablesPunched rfl) (by decide) (fun c102 => ?_) (fun c102 => ?_)
          · replace hr := ite_t c102 hr
            refine G.go tv_X12_tablesPunched 2 13 [(0, .ref (gAd E (56))), (1, .int (x1)), (2, .int (x2)), (3, .int (x3)), (4, .int (x4)), (5, .int (x5)), (6, .int (x6)), (7, .int (x7 + (1 : Int32))), (8, .int (x8))] [] rfl ?_
            refine G.less [(0, .ref (gAd E (56))), (1, .int (x1)), (2, .int (x2)), (3, .int (x3)), (4, .int (x4)), (5, .int (x5)), (6, .int (x6)), (7, .int (x7 + (1 : Int32)))] [0, 1, 2, 3, 4, 5, 6, 7] rfl ?_
            exact hs13 _ _ _ _ _ _ _ _ hr _ ⟨_, _, r108⟩ (hf.tr fa108 (fun _ h => h))
          · replace hr := ite_f c102 hr
            refine G.go tv_X12_tablesPunched 5 13 [(0, .ref (gAd E (56))), (1, .int (x1)), (2, .int (x2)), (3, .int (x3)), (4, .int (x4)), (5, .int (x5 + (1 : Int32))), (6, .int (x8)), (7, .int (x7 + (1 : Int32))), (8, .int (x8))] [] rfl ?_
            refine G.less [(0, .ref (gAd E (56))), (1, .int (x1)), (2, .int (x2)), (3, .int (x3)), (4, .int (x4)), (5, .int (x5 + (1 : Int32))), (6, .int (x8)), (7, .int (x7 + (1 : Int32)))] [0, 1, 2, 3, 4, 5, 6, 7] rfl ?_
            exact hs13 _ _ _ _ _ _ _ _ hr _ ⟨_, _, r108⟩ (hf.tr fa108 (fun _ h => h))
set_option maxRecDepth 100000 in
set_option maxHeartbeats 4000000 in
theorem l_X12_tablesPunched_13 (E : gE) (f0 : Nat → va_E) (sz : Nat) (QA : Nat → Prop) (hE : 94 ≤ gN E) (R : RfT) : ∀ (n : Nat), ∀ (x1 : Int32) (x2 : Int32) (x3 : Int32) (x4 : Int32) (x5 : Int32) (x6 : Int32) (x7 : Int32) (r : Int32) (hr : e_tablesPunched_13 R n x1 x2 x3 x4 x5 x6 x7 = some r) (f : Nat → va_E) (w : RW E f R) (hf : Fr RfK f0 f), G E (6, yX12_tablesPunched, 9, (some .int), sz, QA) cX12_tablesPunched (gO E (6, yX12_tablesPunched, 9, (some .int), sz, QA) (fun v g => v = some (.int r) ∧ RW E g R ∧ Fr RfK f0 g, fun _ _ => False)) 13 [(0, .ref (gAd E (56))), (1, .int (x1)), (2, .int (x2)), (3, .int (x3)), (4, .int (x4)), (5, .int (x5)), (6, .int (x6)), (7, .int (x7))] [] f := by
  intro n
  induction n with
  | zero =>
    intro x1 x2 x3 x4 x5 x6 x7 r hr f w hf
    cases hr
  | succ n ih =>
    intro x1 x2 x3 x4 x5 x6 x7 r hr f w hf
    obtain ⟨az, sy, r0⟩ := w
    unfold e_tablesPunched_13 at hr
    refine G.go tv_X12_tablesPunched 4 20 [(0, .ref (gAd E (56))), (1, .int (x1)), (2, .int (x2)), (3, .int (x3)), (4, .int (x4)), (5, .int (x5)), (6, .int (x6)), (7, .int (x7))] [.int (x3), .int (((128 : Int32)) * (x7))] rfl ?_
    refine G.cmp_ge 118 (tbd tv_X12_tablesPunched rfl) (by decide) (fun c20 => ?_) (fun c20 => ?_)
    · replace hr := ite_t c20 hr
      refine G.go tv_X12_tablesPunched 1 120 [(0, .ref (gAd E (56))), (1, .int (x1)), (2, .int (x2)), (3, .int (x3)), (4, .int (x4)), (5, .int (x5)), (6, .int (x6)), (7, .int (x7))] [.int (x5)] rfl ?_
      cases hr
      exact G.iret rfl rfl ⟨rfl, ⟨_, _, r0⟩, hf⟩ (tbd tv_X12_tablesPunched rfl)
    · replace hr := ite_f c20 hr
      refine G.go tv_X12_tablesPunched 2 27 [(0, .ref (gAd E (56))), (1, .int (x1)), (2, .int (x2)), (3, .int (x3)), (4, .int (x4)), (5, .int (x5)), (6, .int (x6)), (7, .int (x7))] [.int ((8 : Int32)), .int (x7)] rfl ?_
      refine G.cmp_ge 34 (tbd tv_X12_tablesPunched rfl) (by decide) (fun c27 => ?_) (fun c27 => ?_)
      · replace hr := ite_t c27 hr
        refine G.go tv_X12_tablesPunched 2 38 [(0, .ref (gAd E (56))), (1, .int (x1)), (2, .int (x2)), (3, .int (x3)), (4, .int (x4)), (5, .int (x5)), (6, .int (x6)), (7, .int (x7))] [.int ((72 : Int32)), .int (x7)] rfl ?_
        refine G.cmp_ge 45 (tbd tv_X12_tablesPunched rfl) (by decide) (fun c38 => ?_) (fun c38 => ?_)
        · replace hr := ite_t c38 hr
          refine G.go tv_X12_tablesPunched 5 53 [(0, .ref (gAd E (56))), (1, .int (x1)), (2, .int (x2)), (3, .int (x3)), (4, .int (x4)), (5, .int (x5)), (6, .int (x6)), (7, .int (x7))] [.int ((64 : Int32)), .int ((x7) - ((72 : Int32))), .int ((1 : Int32))] rfl ?_
          refine G.idiv (by decide) (tbd tv_X12_tablesPunched rfl) ?_
          refine G.go tv_X12_tablesPunched 2 57 [(0, .ref (gAd E (56))), (1, .int (x1)), (2, .int (x2)), (3, .int (x3)), (4, .int (x4)), (5, .int (x5)), (6, .int (x6)), (7, .int (x7)), (8, .int (((1 : Int32)) + (((x7) - ((72 : Int32))) / ((64 : Int32)))))] [] rfl ?_
          obtain ⟨v107, e107, hr⟩ := nm_s hr
          refine G.eql [(0, .ref (gAd E (56))), (1, .int (x1)), (2, .int (x2)), (3, .int (x3)), (4, .int (x4)), (5, .int (x5)), (6, .int (x6)), (7, .int (x7)), (8, .int (v107))] (by rw [e107]) ?_
          refine G.less [(0, .ref (gAd E (56))), (1, .int (x1)), (2, .int (x2)), (3, .int (x3)), (4, .int (x4)), (5, .int (x5)), (6, .int (x6)), (7, .int (x7)), (8, .int (v107))] [0, 1, 2, 3, 4, 5, 6, 7, 8] rfl ?_
          exact l_X12_tablesPunched_57 E f0 sz QA hE R _ ih _ _ _ _ _ _ _ _ _ hr _ ⟨_, _, r0⟩ hf
        · replace hr := ite_f c38 hr
          refine G.go tv_X12_tablesPunched 3 57 [(0, .ref (gAd E (56))), (1, .int (x1)), (2, .int (x2)), (3, .int (x3)), (4, .int (x4)), (5, .int (x5)), (6, .int (x6)), (7, .int (x7)), (8, .int ((0 : Int32)))] [] rfl ?_
          refine G.less [(0, .ref (gAd E (56))), (1, .int (x1)), (2, .int (x2)), (3, .int (x3)), (4, .int (x4)), (5, .int (x5)), (6, .int (x6)), (7, .int (x7)), (8, .int ((0 : Int32)))] [0, 1, 2, 3, 4, 5, 6, 7, 8] rfl ?_
          exact l_X12_tablesPunched_57 E f0 sz QA hE R _ ih _ _ _ _ _ _ _ _ _ hr _ ⟨_, _, r0⟩ hf
      · replace hr := ite_f c27 hr
        refine G.go tv_X12_tablesPunched 3 57 [(0, .ref (gAd E (56))), (1, .int (x1)), (2, .int (x2)), (3, .int (x3)), (4, .int (x4)), (5, .int (x5)), (6, .int (x6)), (7, .int (x7)), (8, .int ((-1 : Int32)))] [] rfl ?_
        refine G.less [(0, .ref (gAd E (56))), (1, .int (x1)), (2, .int (x2)), (3, .int (x3)), (4, .int (x4)), (5, .int (x5)), (6, .int (x6)), (7, .int (x7)), (8, .int ((-1 : Int32)))] [0, 1, 2, 3, 4, 5, 6, 7, 8] rfl ?_
        exact l_X12_tablesPunched_57 E f0 sz QA hE R _ ih _ _ _ _ _ _ _ _ _ hr _ ⟨_, _, r0⟩ hf
set_option maxRecDepth 100000 in
set_option maxHeartbeats 4000000 in
theorem k_X12_tablesPunched (E : gE) (f : Nat → va_E) (hE : 94 ≤ gN E) (R : RfT) (w : RW E f R) (a0 : Int32) (a1 : Int32) (a2 : Int32) (a3 : Int32) (r : Int32) (hr : e_tablesPunched R a0 a1 a2 a3 = some r) : Ct E 6 yX12_tablesPunched cX12_tablesPunched 9 (some .int) [.ref (gAd E (56)), .int (a0), .int (a1), .int (a2), .int (a3)] f (fun v g => v = some (.int r) ∧ RW E g R ∧ Fr RfK f g, fun _ _ => False) := by
  obtain ⟨az, sy, r0⟩ := w
  refine Ct.of (by decide) (Nat.le_of_ble_eq_true rfl) (fun sz => ?_)
  refine G.eql [(0, .ref (gAd E (56))), (1, .int (a0)), (2, .int (a1)), (3, .int (a2)), (4, .int (a3))] rfl ?_
  unfold e_tablesPunched at hr
  refine G.go tv_X12_tablesPunched 6 10 [(0, .ref (gAd E (56))), (1, .int (a0)), (2, .int (a1)), (3, .int (a2)), (4, .int (a3)), (5, .int ((0 : Int32))), (6, .int ((-1 : Int32)))] [.int ((128 : Int32)), .int (a1)] rfl ?_
  refine G.idiv (by decide) (tbd tv_X12_tablesPunched rfl) ?_
  refine G.go tv_X12_tablesPunched 1 13 [(0, .ref (gAd E (56))), (1, .int (a0)), (2, .int (a1)), (3, .int (a2)), (4, .int (a3)), (5, .int ((0 : Int32))), (6, .int ((-1 : Int32))), (7, .int ((a1) / ((128 : Int32))))] [] rfl ?_
  refine G.less [(0, .ref (gAd E (56))), (1, .int (a0)), (2, .int (a1)), (3, .int (a2)), (4, .int (a3)), (5, .int ((0 : Int32))), (6, .int ((-1 : Int32))), (7, .int ((a1) / ((128 : Int32))))] [0, 1, 2, 3, 4, 5, 6, 7] rfl ?_
  exact l_X12_tablesPunched_13 E f sz _ hE R _ _ _ _ _ _ _ _ _ hr _ ⟨_, _, r0⟩ Fr.rf
def tb_X12_need : List (Nat × Instr × Nat) := [(0, .iconst 0, 1), (1, .istore 4, 2), (3, .iconst (-1), 1), (4, .istore 5, 2), (6, .iconst 0, 1), (7, .istore 6, 2), (9, .iload_n 2, 1), (10, .istore 7, 2), (12, .iload 7, 2), (14, .iload_n 3, 1), (15, .if_icmp .gt 123, 3), (18, .aload_n 0, 1), (19, .iload_n 1, 1), (20, .iload 7, 2), (22, .invokevirtual 323, 3), (25, .ifCond .ne 10, 3), (28, .iload 4, 2), (30, .iconst 1, 1), (31, .iadd, 1), (32, .goto 5, 3), (35, .iload 4, 2), (37, .istore 4, 2), (39, .iload 7, 2), (41, .bipush 8, 2), (43, .if_icmp .ge 7, 3), (46, .iconst (-1), 1), (47, .goto 24, 3), (50, .iload 7, 2), (52, .bipush 72, 2), (54, .if_icmp .ge 7, 3), (57, .iconst 0, 1), (58, .goto 13, 3), (61, .iconst 1, 1), (62, .iload 7, 2), (64, .bipush 72, 2), (66, .isub, 1), (67, .bipush 64, 2), (69, .idiv, 1), (70, .iadd, 1), (71, .istore 8, 2), (73, .iload 8, 2), (75, .iload 5, 2), (77, .if_icmp .eq 22, 3), (80, .iload 8, 2), (82, .iconst (-1), 1), (83, .if_icmp .eq 16, 3), (86, .aload_n 0, 1), (87, .iload_n 1, 1), (88, .iload 7, 2), (90, .invokevirtual 306, 3), (93, .ifCond .ne 6, 3), (96, .iinc 4 1, 3), (99, .iload 7, 2), (101, .bipush 72, 2), (103, .if_icmp .lt 25, 3), (106, .iload 6, 2), (108, .ifCond .ne 20, 3), (111, .aload_n 0, 1), (112, .iload_n 1, 1), (113, .bipush 30, 2), (115, .iconst 2, 1), (116, .invokevirtual 303, 3), (119, .ifCond .ne 9, 3), (122, .iconst 1, 1), (123, .istore 6, 2), (125, .iinc 4 1, 3), (128, .iload 8, 2), (130, .istore 5, 2), (132, .iinc 7 1, 3), (135, .goto (-123), 3), (138, .iload 4, 2), (140, .ireturn, 1)]
theorem tv_X12_need : Tv cX12_need tb_X12_need := by
  unfold Tv
  decide +kernel
def e_need_99 (R : RfT) (self12 : Int32 → Int32 → Int32 → Int32 → Int32 → Int32 → Option (Int32)) (x1 : Int32) (x3 : Int32) (x4 : Int32) (x6 : Int32) (x7 : Int32) (x8 : Int32) : Option (Int32) := if x7 < ((72 : Int32)) then self12 x1 x3 x4 x8 x6 (x7 + (1 : Int32)) else if x6 = 0 then bnd (e_field R x1 ((30 : Int32)) ((2 : Int32))) (fun v112 => if v112 = 0 then self12 x1 x3 (x4 + (1 : Int32)) x8 ((1 : Int32)) (x7 + (1 : Int32)) else self12 x1 x3 x4 x8 x6 (x7 + (1 : Int32))) else self12 x1 x3 x4 x8 x6 (x7 + (1 : Int32))
def e_need_73 (R : RfT) (self12 : Int32 → Int32 → Int32 → Int32 → Int32 → Int32 → Option (Int32)) (x1 : Int32) (x3 : Int32) (x4 : Int32) (x5 : Int32) (x6 : Int32) (x7 : Int32) (x8 : Int32) : Option (Int32) := if x8 = x5 then e_need_99 R self12 x1 x3 x4 x6 x7 x8 else if x8 = ((-1 : Int32)) then e_need_99 R self12 x1 x3 x4 x6 x7 x8 else bnd (e_tableOf R x1 x7) (fun v111 => if v111 = 0 then e_need_99 R self12 x1 x3 (x4 + (1 : Int32)) x6 x7 x8 else e_need_99 R self12 x1 x3 x4 x6 x7 x8)
def e_need_39 (R : RfT) (self12 : Int32 → Int32 → Int32 → Int32 → Int32 → Int32 → Option (Int32)) (x1 : Int32) (x3 : Int32) (x4 : Int32) (x5 : Int32) (x6 : Int32) (x7 : Int32) : Option (Int32) := if ((8 : Int32)) ≤ x7 then if ((72 : Int32)) ≤ x7 then nm (((1 : Int32)) + (((x7) - ((72 : Int32))) / ((64 : Int32)))) (fun v110 => e_need_73 R self12 x1 x3 x4 x5 x6 x7 v110) else e_need_73 R self12 x1 x3 x4 x5 x6 x7 ((0 : Int32)) else e_need_73 R self12 x1 x3 x4 x5 x6 x7 ((-1 : Int32))
def e_need_12 (R : RfT) : Nat → Int32 → Int32 → Int32 → Int32 → Int32 → Int32 → Option (Int32)
  | 0, _, _, _, _, _, _ => none
  | n + 1, x1, x3, x4, x5, x6, x7 => if x3 < x7 then some x4 else bnd (e_blockOf R x1 x7) (fun v109 => if v109 = 0 then e_need_39 R (e_need_12 R n) x1 x3 ((x4) + ((1 : Int32))) x5 x6 x7 else e_need_39 R (e_need_12 R n) x1 x3 x4 x5 x6 x7)
def e_need (R : RfT) (a0 : Int32) (a1 : Int32) (a2 : Int32) : Option (Int32) := e_need_12 R fuL a0 a2 ((0 : Int32)) ((-1 : Int32)) ((0 : Int32)) a1
set_option maxRecDepth 100000 in
set_option maxHeartbeats 4000000 in
theorem l_X12_need_99 (E : gE) (f0 : Nat → va_E) (sz : Nat) (QA : Nat → Prop) (hE : 94 ≤ gN E) (R : RfT) (self12 : Int32 → Int32 → Int32 → Int32 → Int32 → Int32 → Option (Int32)) (hs12 : ∀ (x1 : Int32) (x3 : Int32) (x4 : Int32) (x5 : Int32) (x6 : Int32) (x7 : Int32) (r : Int32) (hr : self12 x1 x3 x4 x5 x6 x7 = some r) (f : Nat → va_E) (w : RW E f R) (hf : Fr RfK f0 f), G E (6, yX12_need, 9, (some .int), sz, QA) cX12_need (gO E (6, yX12_need, 9, (some .int), sz, QA) (fun v g => v = some (.int r) ∧ RW E g R ∧ Fr RfK f0 g, fun _ _ => False)) 12 [(0, .ref (gAd E (56))), (1, .int (x1)), (3, .int (x3)), (4, .int (x4)), (5, .int (x5)), (6, .int (x6)), (7, .int (x7))] [] f) : ∀ (x1 : Int32) (x3 : Int32) (x4 : Int32) (x6 : Int32) (x7 : Int32) (x8 : Int32) (r : Int32) (hr : e_need_99 R self12 x1 x3 x4 x6 x7 x8 = some r) (f : Nat → va_E) (w : RW E f R) (hf : Fr RfK f0 f), G E (6, yX12_need, 9, (some .int), sz, QA) cX12_need (gO E (6, yX12_need, 9, (some .int), sz, QA) (fun v g => v = some (.int r) ∧ RW E g R ∧ Fr RfK f0 g, fun _ _ => False)) 99 [(0, .ref (gAd E (56))), (1, .int (x1)), (3, .int (x3)), (4, .int (x4)), (6, .int (x6)), (7, .int (x7)), (8, .int (x8))] [] f := by
  intro x1 x3 x4 x6 x7 x8 r hr f w hf
  obtain ⟨az, sy, r0⟩ := w
  unfold e_need_99 at hr
  refine G.go tv_X12_need 2 103 [(0, .ref (gAd E (56))), (1, .int (x1)), (3, .int (x3)), (4, .int (x4)), (6, .int (x6)), (7, .int (x7)), (8, .int (x8))] [.int ((72 : Int32)), .int (x7)] rfl ?_
  refine G.cmp_lt 128 (tbd tv_X12_need rfl) (by decide) (fun c103 => ?_) (fun c103 => ?_)
  · replace hr := ite_t c103 hr
    refine G.go tv_X12_need 4 12 [(0, .ref (gAd E (56))), (1, .int (x1)), (3, .int (x3)), (4, .int (x4)), (6, .int (x6)), (7, .int (x7 + (1 : Int32))), (8, .int (x8)), (5, .int (x8))] [] rfl ?_
    refine G.less [(0, .ref (gAd E (56))), (1, .int (x1)), (3, .int (x3)), (4, .int (x4)), (5, .int (x8)), (6, .int (x6)), (7, .int (x7 + (1 : Int32)))] [0, 1, 2, 3, 7, 4, 5] rfl ?_
    exact hs12 _ _ _ _ _ _ _ hr _ ⟨_, _, r0⟩ hf
  · replace hr := ite_f c103 hr
    refine G.go tv_X12_need 1 108 [(0, .ref (gAd E (56))), (1, .int (x1)), (3, .int (x3)), (4, .int (x4)), (6, .int (x6)), (7, .int (x7)), (8, .int (x8))] [.int (x6)] rfl ?_
    refine G.if_ne 128 (tbd tv_X12_need rfl) (by decide) (fun c108 => ?_) (fun c108 => ?_)
    · replace hr := ite_f c108 hr
      refine G.go tv_X12_need 4 12 [(0, .ref (gAd E (56))), (1, .int (x1)), (3, .int (x3)), (4, .int (x4)), (6, .int (x6)), (7, .int (x7 + (1 : Int32))), (8, .int (x8)), (5, .int (x8))] [] rfl ?_
      refine G.less [(0, .ref (gAd E (56))), (1, .int (x1)), (3, .int (x3)), (4, .int (x4)), (5, .int (x8)), (6, .int (x6)), (7, .int (x7 + (1 : Int32)))] [0, 1, 2, 3, 7, 4, 5] rfl ?_
      exact hs12 _ _ _ _ _ _ _ hr _ ⟨_, _, r0⟩ hf
    · replace hr := ite_t c108 hr
      refine G.go tv_X12_need 4 116 [(0, .ref (gAd E (56))), (1, .int (x1)), (3, .int (x3)), (4, .int (x4)), (6, .int (x6)), (7, .int (x7)), (8, .int (x8))] [.int ((2 : Int32)), .int ((30 : Int32)), .int (x1), .ref (gAd E (56))] rfl ?_
      obtain ⟨v112, hv112, hr⟩ := bnd_s hr
      refine G.callV (56) [.int (x1), .int ((30 : Int32)), .int ((2 : Int32))] [] (k_X12_field E _ hE R ⟨_, _, r0⟩ x1 ((30 : Int32)) ((2 : Int32)) v112 hv112) cls_X12 (by omega) (r0.o) cw_X12_303 w_2373 w_75 (Nat.le_of_ble_eq_true rfl) rfl (Nat.le_of_ble_eq_true rfl) (tbd tv_X12_need rfl) (fun v112w f112 q112 => ?_) (fun _ _ h => h.elim)
      obtain ⟨rfl, ⟨az112, sy112, r112⟩, fa112⟩ := q112
      refine G.eqs [.int (v112)] rfl ?_
      refine G.if_ne 128 (tbd tv_X12_need rfl) (by decide) (fun c119 => ?_) (fun c119 => ?_)
      · replace hr := ite_f c119 hr
        refine G.go tv_X12_need 4 12 [(0, .ref (gAd E (56))), (1, .int (x1)), (3, .int (x3)), (4, .int (x4)), (6, .int (x6)), (7, .int (x7 + (1 : Int32))), (8, .int (x8)), (5, .int (x8))] [] rfl ?_
        refine G.less [(0, .ref (gAd E (56))), (1, .int (x1)), (3, .int (x3)), (4, .int (x4)), (5, .int (x8)), (6, .int (x6)), (7, .int (x7 + (1 : Int32)))] [0, 1, 2, 3, 7, 4, 5] rfl ?_
        exact hs12 _ _ _ _ _ _ _ hr _ ⟨_, _, r112⟩ (hf.tr fa112 (fun _ h => h))
      · replace hr := ite_t c119 hr
        refine G.go tv_X12_need 7 12 [(0, .ref (gAd E (56))), (1, .int (x1)), (3, .int (x3)), (4, .int (x4 + (1 : Int32))), (6, .int ((1 : Int32))), (7, .int (x7 + (1 : Int32))), (8, .int (x8)), (5, .int (x8))] [] rfl ?_
        refine G.less [(0, .ref (gAd E (56))), (1, .int (x1)), (3, .int (x3)), (4, .int (x4 + (1 : Int32))), (5, .int (x8)), (6, .int ((1 : Int32))), (7, .int (x7 + (1 : Int32)))] [0, 1, 2, 3, 7, 4, 5] rfl ?_
        exact hs12 _ _ _ _ _ _ _ hr _ ⟨_, _, r112⟩ (hf.tr fa112 (fun _ h => h))
set_option maxRecDepth 100000 in
set_option maxHeartbeats 4000000 in
theorem l_X12_need_73 (E : gE) (f0 : Nat → va_E) (sz : Nat) (QA : Nat → Prop) (hE : 94 ≤ gN E) (R : RfT) (self12 : Int32 → Int32 → Int32 → Int32 → Int32 → Int32 → Option (Int32)) (hs12 : ∀ (x1 : Int32) (x3 : Int32) (x4 : Int32) (x5 : Int32) (x6 : Int32) (x7 : Int32) (r : Int32) (hr : self12 x1 x3 x4 x5 x6 x7 = some r) (f : Nat → va_E) (w : RW E f R) (hf : Fr RfK f0 f), G E (6, yX12_need, 9, (some .int), sz, QA) cX12_need (gO E (6, yX12_need, 9, (some .int), sz, QA) (fun v g => v = some (.int r) ∧ RW E g R ∧ Fr RfK f0 g, fun _ _ => False)) 12 [(0, .ref (gAd E (56))), (1, .int (x1)), (3, .int (x3)), (4, .int (x4)), (5, .int (x5)), (6, .int (x6)), (7, .int (x7))] [] f) : ∀ (x1 : Int32) (x3 : Int32) (x4 : Int32) (x5 : Int32) (x6 : Int32) (x7 : Int32) (x8 : Int32) (r : Int32) (hr : e_need_73 R self12 x1 x3 x4 x5 x6 x7 x8 = some r) (f : Nat → va_E) (w : RW E f R) (hf : Fr RfK f0 f), G E (6, yX12_need, 9, (some .int), sz, QA) cX12_need (gO E (6, yX12_need, 9, (some .int), sz, QA) (fun v g => v = some (.int r) ∧ RW E g R ∧ Fr RfK f0 g, fun _ _ => False)) 73 [(0, .ref (gAd E (56))), (1, .int (x1)), (3, .int (x3)), (4, .int (x4)), (5, .int (x5)), (6, .int (x6)), (7, .int (x7)), (8, .int (x8))] [] f := by
  intro x1 x3 x4 x5 x6 x7 x8 r hr f w hf
  obtain ⟨az, sy, r0⟩ := w
  unfold e_need_73 at hr
  refine G.go tv_X12_need 2 77 [(0, .ref (gAd E (56))), (1, .int (x1)), (3, .int (x3)), (4, .int (x4)), (5, .int (x5)), (6, .int (x6)), (7, .int (x7)), (8, .int (x8))] [.int (x5), .int (x8)] rfl ?_
  refine G.cmp_eq 99 (tbd tv_X12_need rfl) (by decide) (fun c77 => ?_) (fun c77 => ?_)
  · replace hr := ite_t c77 hr
    refine G.less [(0, .ref (gAd E (56))), (1, .int (x1)), (3, .int (x3)), (4, .int (x4)), (6, .int (x6)), (7, .int (x7)), (8, .int (x8))] [0, 1, 2, 3, 5, 6, 7] rfl ?_
    exact l_X12_need_99 E f0 sz QA hE R _ hs12 _ _ _ _ _ _ _ hr _ ⟨_, _, r0⟩ hf
  · replace hr := ite_f c77 hr
    refine G.go tv_X12_need 2 83 [(0, .ref (gAd E (56))), (1, .int (x1)), (3, .int (x3)), (4, .int (x4)), (5, .int (x5)), (6, .int (x6)), (7, .int (x7)), (8, .int (x8))] [.int ((-1 : Int32)), .int (x8)] rfl ?_
    refine G.cmp_eq 99 (tbd tv_X12_need rfl) (by decide) (fun c83 => ?_) (fun c83 => ?_)
    · replace hr := ite_t c83 hr
      refine G.less [(0, .ref (gAd E (56))), (1, .int (x1)), (3, .int (x3)), (4, .int (x4)), (6, .int (x6)), (7, .int (x7)), (8, .int (x8))] [0, 1, 2, 3, 5, 6, 7] rfl ?_
      exact l_X12_need_99 E f0 sz QA hE R _ hs12 _ _ _ _ _ _ _ hr _ ⟨_, _, r0⟩ hf
    · replace hr := ite_f c83 hr
      refine G.go tv_X12_need 3 90 [(0, .ref (gAd E (56))), (1, .int (x1)), (3, .int (x3)), (4, .int (x4)), (5, .int (x5)), (6, .int (x6)), (7, .int (x7)), (8, .int (x8))] [.int (x7), .int (x1), .ref (gAd E (56))] rfl ?_
      obtain ⟨v111, hv111, hr⟩ := bnd_s hr
      refine G.callV (56) [.int (x1), .int (x7)] [] (k_X12_tableOf E _ hE R ⟨_, _, r0⟩ x1 x7 v111 hv111) cls_X12 (by omega) (r0.o) cw_X12_306 w_2511 w_106 (Nat.le_of_ble_eq_true rfl) rfl (Nat.le_of_ble_eq_true rfl) (tbd tv_X12_need rfl) (fun v111w f111 q111 => ?_) (fun _ _ h => h.elim)
      obtain ⟨rfl, ⟨az111, sy111, r111⟩, fa111⟩ := q111
      refine G.eqs [.int (v111)] rfl ?_
      refine G.if_ne 99 (tbd tv_X12_need rfl) (by decide) (fun c93 => ?_) (fun c93 => ?_)
      · replace hr := ite_f c93 hr
        refine G.less [(0, .ref (gAd E (56))), (1, .int (x1)), (3, .int (x3)), (4, .int (x4)), (6, .int (x6)), (7, .int (x7)), (8, .int (x8))] [0, 1, 2, 3, 5, 6, 7] rfl ?_
        exact l_X12_need_99 E f0 sz QA hE R _ hs12 _ _ _ _ _ _ _ hr _ ⟨_, _, r111⟩ (hf.tr fa111 (fun _ h => h))
      · replace hr := ite_t c93 hr
        refine G.go tv_X12_need 1 99 [(0, .ref (gAd E (56))), (1, .int (x1)), (3, .int (x3)), (4, .int (x4 + (1 : Int32))), (5, .int (x5)), (6, .int (x6)), (7, .int (x7)), (8, .int (x8))] [] rfl ?_
        refine G.less [(0, .ref (gAd E (56))), (1, .int (x1)), (3, .int (x3)), (4, .int (x4 + (1 : Int32))), (6, .int (x6)), (7, .int (x7)), (8, .int (x8))] [0, 1, 2, 3, 5, 6, 7] rfl ?_
        exact l_X12_need_99 E f0 sz QA hE R _ hs12 _ _ _ _ _ _ _ hr _ ⟨_, _, r111⟩ (hf.tr fa111 (fun _ h => h))
set_option maxRecDepth 100000 in
set_option maxHeartbeats 4000000 in
theorem l_X12_need_39 (E : gE) (f0 : Nat → va_E) (sz : Nat) (QA : Nat → Prop) (hE : 94 ≤ gN E) (R : RfT) (self12 : Int32 → Int32 → Int32 → Int32 → Int32 → Int32 → Option (Int32)) (hs12 : ∀ (x1 : Int32) (x3 : Int32) (x4 : Int32) (x5 : Int32) (x6 : Int32) (x7 : Int32) (r : Int32) (hr : self12 x1 x3 x4 x5 x6 x7 = some r) (f : Nat → va_E) (w : RW E f R) (hf : Fr RfK f0 f), G E (6, yX12_need, 9, (some .int), sz, QA) cX12_need (gO E (6, yX12_need, 9, (some .int), sz, QA) (fun v g => v = some (.int r) ∧ RW E g R ∧ Fr RfK f0 g, fun _ _ => False)) 12 [(0, .ref (gAd E (56))), (1, .int (x1)), (3, .int (x3)), (4, .int (x4)), (5, .int (x5)), (6, .int (x6)), (7, .int (x7))] [] f) : ∀ (x1 : Int32) (x3 : Int32) (x4 : Int32) (x5 : Int32) (x6 : Int32) (x7 : Int32) (r : Int32) (hr : e_need_39 R self12 x1 x3 x4 x5 x6 x7 = some r) (f : Nat → va_E) (w : RW E f R) (hf : Fr RfK f0 f), G E (6, yX12_need, 9, (some .int), sz, QA) cX12_need (gO E (6, yX12_need, 9, (some .int), sz, QA) (fun v g => v = some (.int r) ∧ RW E g R ∧ Fr RfK f0 g, fun _ _ => False)) 39 [(0, .ref (gAd E (56))), (1, .int (x1)), (3, .int (x3)), (4, .int (x4)), (5, .int (x5)), (6, .int (x6)), (7, .int (x7))] [] f := by
  intro x1 x3 x4 x5 x6 x7 r hr f w hf
  obtain ⟨az, sy, r0⟩ := w
  unfold e_need_39 at hr
  refine G.go tv_X12_need 2 43 [(0, .ref (gAd E (56))), (1, .int (x1)), (3, .int (x3)), (4, .int (x4)), (5, .int (x5)), (6, .int (x6)), (7, .int (x7))] [.int ((8 : Int32)), .int (x7)] rfl ?_
  refine G.cmp_ge 50 (tbd tv_X12_need rfl) (by decide) (fun c43 => ?_) (fun c43 => ?_)
  · replace hr := ite_t c43 hr
    refine G.go tv_X12_need 2 54 [(0, .ref (gAd E (56))), (1, .int (x1)), (3, .int (x3)), (4, .int (x4)), (5, .int (x5)), (6, .int (x6)), (7, .int (x7))] [.int ((72 : Int32)), .int (x7)] rfl ?_
    refine G.cmp_ge 61 (tbd tv_X12_need rfl) (by decide) (fun c54 => ?_) (fun c54 => ?_)
    · replace hr := ite_t c54 hr
      refine G.go tv_X12_need 5 69 [(0, .ref (gAd E (56))), (1, .int (x1)), (3, .int (x3)), (4, .int (x4)), (5, .int (x5)), (6, .int (x6)), (7, .int (x7))] [.int ((64 : Int32)), .int ((x7) - ((72 : Int32))), .int ((1 : Int32))] rfl ?_
      refine G.idiv (by decide) (tbd tv_X12_need rfl) ?_
      refine G.go tv_X12_need 2 73 [(0, .ref (gAd E (56))), (1, .int (x1)), (3, .int (x3)), (4, .int (x4)), (5, .int (x5)), (6, .int (x6)), (7, .int (x7)), (8, .int (((1 : Int32)) + (((x7) - ((72 : Int32))) / ((64 : Int32)))))] [] rfl ?_
      obtain ⟨v110, e110, hr⟩ := nm_s hr
      refine G.eql [(0, .ref (gAd E (56))), (1, .int (x1)), (3, .int (x3)), (4, .int (x4)), (5, .int (x5)), (6, .int (x6)), (7, .int (x7)), (8, .int (v110))] (by rw [e110]) ?_
      refine G.less [(0, .ref (gAd E (56))), (1, .int (x1)), (3, .int (x3)), (4, .int (x4)), (5, .int (x5)), (6, .int (x6)), (7, .int (x7)), (8, .int (v110))] [0, 1, 2, 3, 4, 5, 6, 7] rfl ?_
      exact l_X12_need_73 E f0 sz QA hE R _ hs12 _ _ _ _ _ _ _ _ hr _ ⟨_, _, r0⟩ hf
    · replace hr := ite_f c54 hr
      refine G.go tv_X12_need 3 73 [(0, .ref (gAd E (56))), (1, .int (x1)), (3, .int (x3)), (4, .int (x4)), (5, .int (x5)), (6, .int (x6)), (7, .int (x7)), (8, .int ((0 : Int32)))] [] rfl ?_
      refine G.less [(0, .ref (gAd E (56))), (1, .int (x1)), (3, .int (x3)), (4, .int (x4)), (5, .int (x5)), (6, .int (x6)), (7, .int (x7)), (8, .int ((0 : Int32)))] [0, 1, 2, 3, 4, 5, 6, 7] rfl ?_
      exact l_X12_need_73 E f0 sz QA hE R _ hs12 _ _ _ _ _ _ _ _ hr _ ⟨_, _, r0⟩ hf
  · replace hr := ite_f c43 hr
    refine G.go tv_X12_need 3 73 [(0, .ref (gAd E (56))), (1, .int (x1)), (3, .int (x3)), (4, .int (x4)), (5, .int (x5)), (6, .int (x6)), (7, .int (x7)), (8, .int ((-1 : Int32)))] [] rfl ?_
    refine G.less [(0, .ref (gAd E (56))), (1, .int (x1)), (3, .int (x3)), (4, .int (x4)), (5, .int (x5)), (6, .int (x6)), (7, .int (x7)), (8, .int ((-1 : Int32)))] [0, 1, 2, 3, 4, 5, 6, 7] rfl ?_
    exact l_X12_need_73 E f0 sz QA hE R _ hs12 _ _ _ _ _ _ _ _ hr _ ⟨_, _, r0⟩ hf
set_option maxRecDepth 100000 in
set_option maxHeartbeats 4000000 in
theorem l_X12_need_12 (E : gE) (f0 : Nat → va_E) (sz : Nat) (QA : Nat → Prop) (hE : 94 ≤ gN E) (R : RfT) : ∀ (n : Nat), ∀ (x1 : Int32) (x3 : Int32) (x4 : Int32) (x5 : Int32) (x6 : Int32) (x7 : Int32) (r : Int32) (hr : e_need_12 R n x1 x3 x4 x5 x6 x7 = some r) (f : Nat → va_E) (w : RW E f R) (hf : Fr RfK f0 f), G E (6, yX12_need, 9, (some .int), sz, QA) cX12_need (gO E (6, yX12_need, 9, (some .int), sz, QA) (fun v g => v = some (.int r) ∧ RW E g R ∧ Fr RfK f0 g, fun _ _ => False)) 12 [(0, .ref (gAd E (56))), (1, .int (x1)), (3, .int (x3)), (4, .int (x4)), (5, .int (x5)), (6, .int (x6)), (7, .int (x7))] [] f := by
  intro n
  induction n with
  | zero =>
    intro x1 x3 x4 x5 x6 x7 r hr f w hf
    cases hr
  | succ n ih =>
    intro x1 x3 x4 x5 x6 x7 r hr f w hf
    obtain ⟨az, sy, r0⟩ := w
    unfold e_need_12 at hr
    refine G.go tv_X12_need 2 15 [(0, .ref (gAd E (56))), (1, .int (x1)), (3, .int (x3)), (4, .int (x4)), (5, .int (x5)), (6, .int (x6)), (7, .int (x7))] [.int (x3), .int (x7)] rfl ?_
    refine G.cmp_gt 138 (tbd tv_X12_need rfl) (by decide) (fun c15 => ?_) (fun c15 => ?_)
    · replace hr := ite_t c15 hr
      refine G.go tv_X12_need 1 140 [(0, .ref (gAd E (56))), (1, .int (x1)), (3, .int (x3)), (4, .int (x4)), (5, .int (x5)), (6, .int (x6)), (7, .int (x7))] [.int (x4)] rfl ?_
      cases hr
      exact G.iret rfl rfl ⟨rfl, ⟨_, _, r0⟩, hf⟩ (tbd tv_X12_need rfl)
    · replace hr := ite_f c15 hr
      refine G.go tv_X12_need 3 22 [(0, .ref (gAd E (56))), (1, .int (x1)), (3, .int (x3)), (4, .int (x4)), (5, .int (x5)), (6, .int (x6)), (7, .int (x7))] [.int (x7), .int (x1), .ref (gAd E (56))] rfl ?_
      obtain ⟨v109, hv109, hr⟩ := bnd_s hr
      refine G.callV (56) [.int (x1), .int (x7)] [] (k_X12_blockOf E _ hE R ⟨_, _, r0⟩ x1 x7 v109 hv109) cls_X12 (by omega) (r0.o) cw_X12_323 w_2507 w_105 (Nat.le_of_ble_eq_true rfl) rfl (Nat.le_of_ble_eq_true rfl) (tbd tv_X12_need rfl) (fun v109w f109 q109 => ?_) (fun _ _ h => h.elim)
      obtain ⟨rfl, ⟨az109, sy109, r109⟩, fa109⟩ := q109
      refine G.eqs [.int (v109)] rfl ?_
      refine G.if_ne 35 (tbd tv_X12_need rfl) (by decide) (fun c25 => ?_) (fun c25 => ?_)
      · replace hr := ite_f c25 hr
        refine G.go tv_X12_need 2 39 [(0, .ref (gAd E (56))), (1, .int (x1)), (3, .int (x3)), (4, .int (x4)), (5, .int (x5)), (6, .int (x6)), (7, .int (x7))] [] rfl ?_
        refine G.less [(0, .ref (gAd E (56))), (1, .int (x1)), (3, .int (x3)), (4, .int (x4)), (5, .int (x5)), (6, .int (x6)), (7, .int (x7))] [0, 1, 2, 3, 4, 5, 6] rfl ?_
        exact l_X12_need_39 E f0 sz QA hE R _ ih _ _ _ _ _ _ _ hr _ ⟨_, _, r109⟩ (hf.tr fa109 (fun _ h => h))
      · replace hr := ite_t c25 hr
        refine G.go tv_X12_need 5 39 [(0, .ref (gAd E (56))), (1, .int (x1)), (3, .int (x3)), (4, .int ((x4) + ((1 : Int32)))), (5, .int (x5)), (6, .int (x6)), (7, .int (x7))] [] rfl ?_
        refine G.less [(0, .ref (gAd E (56))), (1, .int (x1)), (3, .int (x3)), (4, .int ((x4) + ((1 : Int32)))), (5, .int (x5)), (6, .int (x6)), (7, .int (x7))] [0, 1, 2, 3, 4, 5, 6] rfl ?_
        exact l_X12_need_39 E f0 sz QA hE R _ ih _ _ _ _ _ _ _ hr _ ⟨_, _, r109⟩ (hf.tr fa109 (fun _ h => h))
set_option maxRecDepth 100000 in
set_option maxHeartbeats 4000000 in
theorem k_X12_need (E : gE) (f : Nat → va_E) (hE : 94 ≤ gN E) (R : RfT) (w : RW E f R) (a0 : Int32) (a1 : Int32) (a2 : Int32) (r : Int32) (hr : e_need R a0 a1 a2 = some r) : Ct E 6 yX12_need cX12_need 9 (some .int) [.ref (gAd E (56)), .int (a0), .int (a1), .int (a2)] f (fun v g => v = some (.int r) ∧ RW E g R ∧ Fr RfK f g, fun _ _ => False) := by
  obtain ⟨az, sy, r0⟩ := w
  refine Ct.of (by decide) (Nat.le_of_ble_eq_true rfl) (fun sz => ?_)
  refine G.eql [(0, .ref (gAd E (56))), (1, .int (a0)), (2, .int (a1)), (3, .int (a2))] rfl ?_
  unfold e_need at hr
  refine G.go tv_X12_need 8 12 [(0, .ref (gAd E (56))), (1, .int (a0)), (2, .int (a1)), (3, .int (a2)), (4, .int ((0 : Int32))), (5, .int ((-1 : Int32))), (6, .int ((0 : Int32))), (7, .int (a1))] [] rfl ?_
  refine G.less [(0, .ref (gAd E (56))), (1, .int (a0)), (3, .int (a2)), (4, .int ((0 : Int32))), (5, .int ((-1 : Int32))), (6, .int ((0 : Int32))), (7, .int (a1))] [0, 1, 3, 4, 5, 6, 7] rfl ?_
  exact l_X12_need_12 E f sz _ hE R _ _ _ _ _ _ _ _ hr _ ⟨_, _, r0⟩ Fr.rf
def tb_X12_freeBlocks : List (Nat × Instr × Nat) := [(0, .aload_n 0, 1), (1, .bipush 43, 2), (3, .iconst 1, 1), (4, .invokevirtual 236, 3), (7, .iconst 0, 1), (8, .istore_n 1, 1), (9, .bipush 61, 2), (11, .istore_n 2, 1), (12, .iload_n 2, 1), (13, .aload_n 0, 1), (14, .getfield 131, 3), (17, .if_icmp .ge 36, 3), (20, .aload_n 0, 1), (21, .getfield 86, 3), (24, .iload_n 2, 1), (25, .bipush 8, 2), (27, .idiv, 1), (28, .baload, 1), (29, .iload_n 2, 1), (30, .bipush 8, 2), (32, .irem, 1), (33, .ishr, 1), (34, .iconst 1, 1), (35, .iand, 1), (36, .ifCond .ne 9, 3), (39, .iload_n 1, 1), (40, .iconst 1, 1), (41, .iadd, 1), (42, .goto 4, 3), (45, .iload_n 1, 1), (46, .istore_n 1, 1), (47, .iinc 2 1, 3), (50, .goto (-38), 3), (53, .iload_n 1, 1), (54, .ireturn, 1)]
theorem tv_X12_freeBlocks : Tv cX12_freeBlocks tb_X12_freeBlocks := by
  unfold Tv
  decide +kernel
def e_freeBlocks_12  : Nat → RfT → Int32 → Int32 → Option (Int32 × RfT)
  | 0, _, _, _ => none
  | n + 1, R, x1, x2 => if (rS R 1) ≤ x2 then some (x1, R) else ld (rA R 43) 128 ((x2) / ((8 : Int32))) (fun v114 => if (((v114) >>> (((x2) - (x2) / ((8 : Int32)) * ((8 : Int32))) &&& 31)) &&& ((1 : Int32))) = 0 then e_freeBlocks_12  n R ((x1) + ((1 : Int32))) (x2 + (1 : Int32)) else e_freeBlocks_12  n R x1 (x2 + (1 : Int32)))
def e_freeBlocks  (R : RfT) : Option (Int32 × RfT) := bnd (e_see R ((43 : Int32)) ((1 : Int32))) (fun R113 => e_freeBlocks_12  fuL R113 ((0 : Int32)) ((61 : Int32)))
set_option maxRecDepth 100000 in
set_option maxHeartbeats 4000000 in
theorem l_X12_freeBlocks_12 (E : gE) (f0 : Nat → va_E) (sz : Nat) (QA : Nat → Prop) (hE : 94 ≤ gN E) : ∀ (n : Nat), ∀ (R : RfT) (x1 : Int32) (x2 : Int32) (r : Int32) (R9 : RfT) (hr : e_freeBlocks_12  n R x1 x2 = some (r, R9)) (f : Nat → va_E) (w : RW E f R) (hf : Fr RfK f0 f), G E (3, yX12_freeBlocks, 3, (some .int), sz, QA) cX12_freeBlocks (gO E (3, yX12_freeBlocks, 3, (some .int), sz, QA) (fun v g => v = some (.int r) ∧ RW E g R9 ∧ Fr RfK f0 g, fun _ _ => False)) 12 [(0, .ref (gAd E (56))), (1, .int (x1)), (2, .int (x2))] [] f := by
  intro n
  induction n with
  | zero =>
    intro R x1 x2 r R9 hr f w hf
    cases hr
  | succ n ih =>
    intro R x1 x2 r R9 hr f w hf
    obtain ⟨az, sy, r0⟩ := w
    unfold e_freeBlocks_12 at hr
    refine G.go tv_X12_freeBlocks 2 14 [(0, .ref (gAd E (56))), (1, .int (x1)), (2, .int (x2))] [.ref (gAd E (56)), .int (x2)] rfl ?_
    refine G.rg r0 hE 1 (.int (rS R 1)) (by decide) rfl (tbd tv_X12_freeBlocks rfl) w_2066 ?_
    refine G.cmp_ge 53 (tbd tv_X12_freeBlocks rfl) (by decide) (fun c17 => ?_) (fun c17 => ?_)
    · replace hr := ite_t c17 hr
      refine G.go tv_X12_freeBlocks 1 54 [(0, .ref (gAd E (56))), (1, .int (x1)), (2, .int (x2))] [.int (x1)] rfl ?_
      cases hr
      exact G.iret rfl rfl ⟨rfl, ⟨_, _, r0⟩, hf⟩ (tbd tv_X12_freeBlocks rfl)
    · replace hr := ite_f c17 hr
      refine G.go tv_X12_freeBlocks 1 21 [(0, .ref (gAd E (56))), (1, .int (x1)), (2, .int (x2))] [.ref (gAd E (56))] rfl ?_
      refine G.rg r0 hE 43 (.ref (gAd E (78))) (by decide) rfl (tbd tv_X12_freeBlocks rfl) w_2108 ?_
      refine G.go tv_X12_freeBlocks 2 27 [(0, .ref (gAd E (56))), (1, .int (x1)), (2, .int (x2))] [.int ((8 : Int32)), .int (x2), .ref (gAd E (78))] rfl ?_
      refine G.idiv (by decide) (tbd tv_X12_freeBlocks rfl) ?_
      obtain ⟨v114, b114, e114, hr⟩ := ld_s hr
      refine G.baldE (78) (by omega) (r0.a43) b114 e114 (tbd tv_X12_freeBlocks rfl) ?_
      refine G.go tv_X12_freeBlocks 2 32 [(0, .ref (gAd E (56))), (1, .int (x1)), (2, .int (x2))] [.int ((8 : Int32)), .int (x2), .int (v114)] rfl ?_
      refine G.irem (by decide) (tbd tv_X12_freeBlocks rfl) ?_
      refine G.go tv_X12_freeBlocks 3 36 [(0, .ref (gAd E (56))), (1, .int (x1)), (2, .int (x2))] [.int (((v114) >>> (((x2) - (x2) / ((8 : Int32)) * ((8 : Int32))) &&& 31)) &&& ((1 : Int32)))] rfl ?_
      refine G.if_ne 45 (tbd tv_X12_freeBlocks rfl) (by decide) (fun c36 => ?_) (fun c36 => ?_)
      · replace hr := ite_f c36 hr
        refine G.go tv_X12_freeBlocks 4 12 [(0, .ref (gAd E (56))), (1, .int (x1)), (2, .int (x2 + (1 : Int32)))] [] rfl ?_
        refine G.less [(0, .ref (gAd E (56))), (1, .int (x1)), (2, .int (x2 + (1 : Int32)))] [0, 1, 2] rfl ?_
        exact ih _ _ _ _ _ hr _ ⟨_, _, r0⟩ hf
      · replace hr := ite_t c36 hr
        refine G.go tv_X12_freeBlocks 7 12 [(0, .ref (gAd E (56))), (1, .int ((x1) + ((1 : Int32)))), (2, .int (x2 + (1 : Int32)))] [] rfl ?_
        refine G.less [(0, .ref (gAd E (56))), (1, .int ((x1) + ((1 : Int32)))), (2, .int (x2 + (1 : Int32)))] [0, 1, 2] rfl ?_
        exact ih _ _ _ _ _ hr _ ⟨_, _, r0⟩ hf
set_option maxRecDepth 100000 in
set_option maxHeartbeats 4000000 in
theorem k_X12_freeBlocks (E : gE) (f : Nat → va_E) (hE : 94 ≤ gN E) (R : RfT) (w : RW E f R) (r : Int32) (R9 : RfT) (hr : e_freeBlocks R = some (r, R9)) : Ct E 3 yX12_freeBlocks cX12_freeBlocks 3 (some .int) [.ref (gAd E (56))] f (fun v g => v = some (.int r) ∧ RW E g R9 ∧ Fr RfK f g, fun _ _ => False) := by
  obtain ⟨az, sy, r0⟩ := w
  refine Ct.of (by decide) (Nat.le_of_ble_eq_true rfl) (fun sz => ?_)
  refine G.eql [(0, .ref (gAd E (56)))] rfl ?_
  unfold e_freeBlocks at hr
  refine G.go tv_X12_freeBlocks 3 4 [(0, .ref (gAd E (56)))] [.int ((1 : Int32)), .int ((43 : Int32)), .ref (gAd E (56))] rfl ?_
  obtain ⟨R113, hv113, hr⟩ := bnd_s hr
  refine G.callV (56) [.int ((43 : Int32)), .int ((1 : Int32))] [] (k_X12_see E _ hE R ⟨_, _, r0⟩ ((43 : Int32)) ((1 : Int32)) R113 hv113) cls_X12 (by omega) (r0.o) cw_X12_236 w_2420 w_86 (Nat.le_of_ble_eq_true rfl) rfl (Nat.le_of_ble_eq_true rfl) (tbd tv_X12_freeBlocks rfl) (fun v113w f113 q113 => ?_) (fun _ _ h => h.elim)
  obtain ⟨rfl, ⟨az113, sy113, r113⟩, fa113⟩ := q113
  refine G.eqs [] rfl ?_
  refine G.go tv_X12_freeBlocks 4 12 [(0, .ref (gAd E (56))), (1, .int ((0 : Int32))), (2, .int ((61 : Int32)))] [] rfl ?_
  refine G.less [(0, .ref (gAd E (56))), (1, .int ((0 : Int32))), (2, .int ((61 : Int32)))] [0, 1, 2] rfl ?_
  exact l_X12_freeBlocks_12 E f sz _ hE _ _ _ _ _ _ hr _ ⟨_, _, r113⟩ (Fr.rf.tr fa113 (fun _ h => h))
def tb_X12_room : List (Nat × Instr × Nat) := [(0, .aload_n 0, 1), (1, .invokevirtual 320, 3), (4, .istore_n 1, 1), (5, .iconst 0, 1), (6, .istore_n 2, 1), (7, .iload_n 2, 1), (8, .sipush 1024, 3), (11, .if_icmp .ge 27, 3), (14, .aload_n 0, 1), (15, .getfield 68, 3), (18, .iload_n 2, 1), (19, .baload, 1), (20, .iconst 2, 1), (21, .if_icmp .ne 9, 3), (24, .iload_n 1, 1), (25, .iconst 1, 1), (26, .isub, 1), (27, .goto 4, 3), (30, .iload_n 1, 1), (31, .istore_n 1, 1), (32, .iinc 2 1, 3), (35, .goto (-28), 3), (38, .iload_n 1, 1), (39, .ireturn, 1)]
theorem tv_X12_room : Tv cX12_room tb_X12_room := by
  unfold Tv
  decide +kernel
theorem w_2537 : Cond.methodLink "LedgerFilesModel" 320 yX12_freeBlocks ∈ TB := tp_10 231 (by decide +kernel) rfl
theorem w_2540 : Cond.code yX12_freeBlocks prog_14_method_47_code 3 (some .int) ∈ TB := tp_10 234 rfl rfl
theorem cw_X12_320 : Cw RX12 320 yX12_freeBlocks cX12_freeBlocks 3 (some .int) 0 := ⟨w_2537, w_2540, w_161, by decide +kernel, by decide +kernel, by decide⟩
theorem w_2539 : Cond.instanceMethod yX12_freeBlocks ∈ TB := tp_10 233 (by decide +kernel) rfl
theorem w_113 : Cond.selects "LedgerFilesModel" yX12_freeBlocks yX12_freeBlocks ∈ TB := tp_0 113 (by decide +kernel) rfl
def e_room_7  : Nat → RfT → Int32 → Int32 → Option (Int32 × RfT)
  | 0, _, _, _ => none
  | n + 1, R, x1, x2 => if ((1024 : Int32)) ≤ x2 then some (x1, R) else ld (rA R 35) 1024 x2 (fun v116 => if v116 = ((2 : Int32)) then e_room_7  n R ((x1) - ((1 : Int32))) (x2 + (1 : Int32)) else e_room_7  n R x1 (x2 + (1 : Int32)))
def e_room  (R : RfT) : Option (Int32 × RfT) := bnd2 (e_freeBlocks R) (fun v115 R115 => e_room_7  fuL R115 v115 ((0 : Int32)))
set_option maxRecDepth 100000 in
set_option maxHeartbeats 4000000 in
theorem l_X12_room_7 (E : gE) (f0 : Nat → va_E) (sz : Nat) (QA : Nat → Prop) (hE : 94 ≤ gN E) : ∀ (n : Nat), ∀ (R : RfT) (x1 : Int32) (x2 : Int32) (r : Int32) (R9 : RfT) (hr : e_room_7  n R x1 x2 = some (r, R9)) (f : Nat → va_E) (w : RW E f R) (hf : Fr RfK f0 f), G E (4, yX12_room, 3, (some .int), sz, QA) cX12_room (gO E (4, yX12_room, 3, (some .int), sz, QA) (fun v g => v = some (.int r) ∧ RW E g R9 ∧ Fr RfK f0 g, fun _ _ => False)) 7 [(0, .ref (gAd E (56))), (1, .int (x1)), (2, .int (x2))] [] f := by
  intro n
  induction n with
  | zero =>
    intro R x1 x2 r R9 hr f w hf
    cases hr
  | succ n ih =>
    intro R x1 x2 r R9 hr f w hf
    obtain ⟨az, sy, r0⟩ := w
    unfold e_room_7 at hr
    refine G.go tv_X12_room 2 11 [(0, .ref (gAd E (56))), (1, .int (x1)), (2, .int (x2))] [.int ((1024 : Int32)), .int (x2)] rfl ?_
    refine G.cmp_ge 38 (tbd tv_X12_room rfl) (by decide) (fun c11 => ?_) (fun c11 => ?_)
    · replace hr := ite_t c11 hr
      refine G.go tv_X12_room 1 39 [(0, .ref (gAd E (56))), (1, .int (x1)), (2, .int (x2))] [.int (x1)] rfl ?_
      cases hr
      exact G.iret rfl rfl ⟨rfl, ⟨_, _, r0⟩, hf⟩ (tbd tv_X12_room rfl)
    · replace hr := ite_f c11 hr
      refine G.go tv_X12_room 1 15 [(0, .ref (gAd E (56))), (1, .int (x1)), (2, .int (x2))] [.ref (gAd E (56))] rfl ?_
      refine G.rg r0 hE 35 (.ref (gAd E (72))) (by decide) rfl (tbd tv_X12_room rfl) w_2100 ?_
      refine G.go tv_X12_room 1 19 [(0, .ref (gAd E (56))), (1, .int (x1)), (2, .int (x2))] [.int (x2), .ref (gAd E (72))] rfl ?_
      obtain ⟨v116, b116, e116, hr⟩ := ld_s hr
      refine G.baldE (72) (by omega) (r0.a35) b116 e116 (tbd tv_X12_room rfl) ?_
      refine G.go tv_X12_room 1 21 [(0, .ref (gAd E (56))), (1, .int (x1)), (2, .int (x2))] [.int ((2 : Int32)), .int (v116)] rfl ?_
      refine G.cmp_ne 30 (tbd tv_X12_room rfl) (by decide) (fun c21 => ?_) (fun c21 => ?_)
      · replace hr := ite_f c21 hr
        refine G.go tv_X12_room 4 7 [(0, .ref (gAd E (56))), (1, .int (x1)), (2, .int (x2 + (1 : Int32)))] [] rfl ?_
        refine G.less [(0, .ref (gAd E (56))), (1, .int (x1)), (2, .int (x2 + (1 : Int32)))] [0, 1, 2] rfl ?_
        exact ih _ _ _ _ _ hr _ ⟨_, _, r0⟩ hf
      · replace hr := ite_t c21 hr
        refine G.go tv_X12_room 7 7 [(0, .ref (gAd E (56))), (1, .int ((x1) - ((1 : Int32)))), (2, .int (x2 + (1 : Int32)))] [] rfl ?_
        refine G.less [(0, .ref (gAd E (56))), (1, .int ((x1) - ((1 : Int32)))), (2, .int (x2 + (1 : Int32)))] [0, 1, 2] rfl ?_
        exact ih _ _ _ _ _ hr _ ⟨_, _, r0⟩ hf
set_option maxRecDepth 100000 in
set_option maxHeartbeats 4000000 in
theorem k_X12_room (E : gE) (f : Nat → va_E) (hE : 94 ≤ gN E) (R : RfT) (w : RW E f R) (r : Int32) (R9 : RfT) (hr : e_room R = some (r, R9)) : Ct E 4 yX12_room cX12_room 3 (some .int) [.ref (gAd E (56))] f (fun v g => v = some (.int r) ∧ RW E g R9 ∧ Fr RfK f g, fun _ _ => False) := by
  obtain ⟨az, sy, r0⟩ := w
  refine Ct.of (by decide) (Nat.le_of_ble_eq_true rfl) (fun sz => ?_)
  refine G.eql [(0, .ref (gAd E (56)))] rfl ?_
  unfold e_room at hr
  refine G.go tv_X12_room 1 1 [(0, .ref (gAd E (56)))] [.ref (gAd E (56))] rfl ?_
  obtain ⟨v115, R115, hv115, hr⟩ := bnd2_s hr
  refine G.callV (56) [] [] (k_X12_freeBlocks E _ hE R ⟨_, _, r0⟩ v115 R115 hv115) cls_X12 (by omega) (r0.o) cw_X12_320 w_2539 w_113 (Nat.le_of_ble_eq_true rfl) rfl (Nat.le_of_ble_eq_true rfl) (tbd tv_X12_room rfl) (fun v115w f115 q115 => ?_) (fun _ _ h => h.elim)
  obtain ⟨rfl, ⟨az115, sy115, r115⟩, fa115⟩ := q115
  refine G.eqs [.int (v115)] rfl ?_
  refine G.go tv_X12_room 3 7 [(0, .ref (gAd E (56))), (1, .int (v115)), (2, .int ((0 : Int32)))] [] rfl ?_
  refine G.less [(0, .ref (gAd E (56))), (1, .int (v115)), (2, .int ((0 : Int32)))] [0, 1, 2] rfl ?_
  exact l_X12_room_7 E f sz _ hE _ _ _ _ _ _ hr _ ⟨_, _, r115⟩ (Fr.rf.tr fa115 (fun _ h => h))
def tb_X12_lowestFree : List (Nat × Instr × Nat) := [(0, .aload_n 0, 1), (1, .bipush 43, 2), (3, .iconst 1, 1), (4, .invokevirtual 236, 3), (7, .bipush 61, 2), (9, .istore_n 1, 1), (10, .iload_n 1, 1), (11, .aload_n 0, 1), (12, .getfield 131, 3), (15, .if_icmp .ge 39, 3), (18, .aload_n 0, 1), (19, .getfield 86, 3), (22, .iload_n 1, 1), (23, .bipush 8, 2), (25, .idiv, 1), (26, .baload, 1), (27, .iload_n 1, 1), (28, .bipush 8, 2), (30, .irem, 1), (31, .ishr, 1), (32, .iconst 1, 1), (33, .iand, 1), (34, .ifCond .ne 14, 3), (37, .aload_n 0, 1), (38, .getfield 68, 3), (41, .iload_n 1, 1), (42, .baload, 1), (43, .ifCond .ne 5, 3), (46, .iload_n 1, 1), (47, .ireturn, 1), (48, .iinc 1 1, 3), (51, .goto (-41), 3), (54, .iconst (-1), 1), (55, .ireturn, 1)]
theorem tv_X12_lowestFree : Tv cX12_lowestFree tb_X12_lowestFree := by
  unfold Tv
  decide +kernel
def e_lowestFree_10  : Nat → RfT → Int32 → Option (Int32 × RfT)
  | 0, _, _ => none
  | n + 1, R, x1 => if (rS R 1) ≤ x1 then some ((-1 : Int32), R) else ld (rA R 43) 128 ((x1) / ((8 : Int32))) (fun v118 => if (((v118) >>> (((x1) - (x1) / ((8 : Int32)) * ((8 : Int32))) &&& 31)) &&& ((1 : Int32))) = 0 then ld (rA R 35) 1024 x1 (fun v119 => if v119 = 0 then some (x1, R) else e_lowestFree_10  n R (x1 + (1 : Int32))) else e_lowestFree_10  n R (x1 + (1 : Int32)))
def e_lowestFree  (R : RfT) : Option (Int32 × RfT) := bnd (e_see R ((43 : Int32)) ((1 : Int32))) (fun R117 => e_lowestFree_10  fuL R117 ((61 : Int32)))
set_option maxRecDepth 100000 in
set_option maxHeartbeats 4000000 in
theorem l_X12_lowestFree_10 (E : gE) (f0 : Nat → va_E) (sz : Nat) (QA : Nat → Prop) (hE : 94 ≤ gN E) : ∀ (n : Nat), ∀ (R : RfT) (x1 : Int32) (r : Int32) (R9 : RfT) (hr : e_lowestFree_10  n R x1 = some (r, R9)) (f : Nat → va_E) (w : RW E f R) (hf : Fr RfK f0 f), G E (3, yX12_lowestFree, 2, (some .int), sz, QA) cX12_lowestFree (gO E (3, yX12_lowestFree, 2, (some .int), sz, QA) (fun v g => v = some (.int r) ∧ RW E g R9 ∧ Fr RfK f0 g, fun _ _ => False)) 10 [(0, .ref (gAd E (56))), (1, .int (x1))] [] f := by
  intro n
  induction n with
  | zero =>
    intro R x1 r R9 hr f w hf
    cases hr
  | succ n ih =>
    intro R x1 r R9 hr f w hf
    obtain ⟨az, sy, r0⟩ := w
    unfold e_lowestFree_10 at hr
    refine G.go tv_X12_lowestFree 2 12 [(0, .ref (gAd E (56))), (1, .int (x1))] [.ref (gAd E (56)), .int (x1)] rfl ?_
    refine G.rg r0 hE 1 (.int (rS R 1)) (by decide) rfl (tbd tv_X12_lowestFree rfl) w_2066 ?_
    refine G.cmp_ge 54 (tbd tv_X12_lowestFree rfl) (by decide) (fun c15 => ?_) (fun c15 => ?_)
    · replace hr := ite_t c15 hr
      refine G.go tv_X12_lowestFree 1 55 [(0, .ref (gAd E (56))), (1, .int (x1))] [.int ((-1 : Int32))] rfl ?_
      cases hr
      exact G.iret rfl rfl ⟨rfl, ⟨_, _, r0⟩, hf⟩ (tbd tv_X12_lowestFree rfl)
    · replace hr := ite_f c15 hr
      refine G.go tv_X12_lowestFree 1 19 [(0, .ref (gAd E (56))), (1, .int (x1))] [.ref (gAd E (56))] rfl ?_
      refine G.rg r0 hE 43 (.ref (gAd E (78))) (by decide) rfl (tbd tv_X12_lowestFree rfl) w_2108 ?_
      refine G.go tv_X12_lowestFree 2 25 [(0, .ref (gAd E (56))), (1, .int (x1))] [.int ((8 : Int32)), .int (x1), .ref (gAd E (78))] rfl ?_
      refine G.idiv (by decide) (tbd tv_X12_lowestFree rfl) ?_
      obtain ⟨v118, b118, e118, hr⟩ := ld_s hr
      refine G.baldE (78) (by omega) (r0.a43) b118 e118 (tbd tv_X12_lowestFree rfl) ?_
      refine G.go tv_X12_lowestFree 2 30 [(0, .ref (gAd E (56))), (1, .int (x1))] [.int ((8 : Int32)), .int (x1), .int (v118)] rfl ?_
      refine G.irem (by decide) (tbd tv_X12_lowestFree rfl) ?_
      refine G.go tv_X12_lowestFree 3 34 [(0, .ref (gAd E (56))), (1, .int (x1))] [.int (((v118) >>> (((x1) - (x1) / ((8 : Int32)) * ((8 : Int32))) &&& 31)) &&& ((1 : Int32)))] rfl ?_
      refine G.if_ne 48 (tbd tv_X12_lowestFree rfl) (by decide) (fun c34 => ?_) (fun c34 => ?_)
      · replace hr := ite_f c34 hr
        refine G.go tv_X12_lowestFree 2 10 [(0, .ref (gAd E (56))), (1, .int (x1 + (1 : Int32)))] [] rfl ?_
        refine G.less [(0, .ref (gAd E (56))), (1, .int (x1 + (1 : Int32)))] [0, 1] rfl ?_
        exact ih _ _ _ _ hr _ ⟨_, _, r0⟩ hf
      · replace hr := ite_t c34 hr
        refine G.go tv_X12_lowestFree 1 38 [(0, .ref (gAd E (56))), (1, .int (x1))] [.ref (gAd E (56))] rfl ?_
        refine G.rg r0 hE 35 (.ref (gAd E (72))) (by decide) rfl (tbd tv_X12_lowestFree rfl) w_2100 ?_
        refine G.go tv_X12_lowestFree 1 42 [(0, .ref (gAd E (56))), (1, .int (x1))] [.int (x1), .ref (gAd E (72))] rfl ?_
        obtain ⟨v119, b119, e119, hr⟩ := ld_s hr
        refine G.baldE (72) (by omega) (r0.a35) b119 e119 (tbd tv_X12_lowestFree rfl) ?_
        refine G.if_ne 48 (tbd tv_X12_lowestFree rfl) (by decide) (fun c43 => ?_) (fun c43 => ?_)
        · replace hr := ite_f c43 hr
          refine G.go tv_X12_lowestFree 2 10 [(0, .ref (gAd E (56))), (1, .int (x1 + (1 : Int32)))] [] rfl ?_
          refine G.less [(0, .ref (gAd E (56))), (1, .int (x1 + (1 : Int32)))] [0, 1] rfl ?_
          exact ih _ _ _ _ hr _ ⟨_, _, r0⟩ hf
        · replace hr := ite_t c43 hr
          refine G.go tv_X12_lowestFree 1 47 [(0, .ref (gAd E (56))), (1, .int (x1))] [.int (x1)] rfl ?_
          cases hr
          exact G.iret rfl rfl ⟨rfl, ⟨_, _, r0⟩, hf⟩ (tbd tv_X12_lowestFree rfl)
set_option maxRecDepth 100000 in
set_option maxHeartbeats 4000000 in
theorem k_X12_lowestFree (E : gE) (f : Nat → va_E) (hE : 94 ≤ gN E) (R : RfT) (w : RW E f R) (r : Int32) (R9 : RfT) (hr : e_lowestFree R = some (r, R9)) : Ct E 3 yX12_lowestFree cX12_lowestFree 2 (some .int) [.ref (gAd E (56))] f (fun v g => v = some (.int r) ∧ RW E g R9 ∧ Fr RfK f g, fun _ _ => False) := by
  obtain ⟨az, sy, r0⟩ := w
  refine Ct.of (by decide) (Nat.le_of_ble_eq_true rfl) (fun sz => ?_)
  refine G.eql [(0, .ref (gAd E (56)))] rfl ?_
  unfold e_lowestFree at hr
  refine G.go tv_X12_lowestFree 3 4 [(0, .ref (gAd E (56)))] [.int ((1 : Int32)), .int ((43 : Int32)), .ref (gAd E (56))] rfl ?_
  obtain ⟨R117, hv117, hr⟩ := bnd_s hr
  refine G.callV (56) [.int ((43 : Int32)), .int ((1 : Int32))] [] (k_X12_see E _ hE R ⟨_, _, r0⟩ ((43 : Int32)) ((1 : Int32)) R117 hv117) cls_X12 (by omega) (r0.o) cw_X12_236 w_2420 w_86 (Nat.le_of_ble_eq_true rfl) rfl (Nat.le_of_ble_eq_true rfl) (tbd tv_X12_lowestFree rfl) (fun v117w f117 q117 => ?_) (fun _ _ h => h.elim)
  obtain ⟨rfl, ⟨az117, sy117, r117⟩, fa117⟩ := q117
  refine G.eqs [] rfl ?_
  refine G.go tv_X12_lowestFree 2 10 [(0, .ref (gAd E (56))), (1, .int ((61 : Int32)))] [] rfl ?_
  refine G.less [(0, .ref (gAd E (56))), (1, .int ((61 : Int32)))] [0, 1] rfl ?_
  exact l_X12_lowestFree_10 E f sz _ hE _ _ _ _ _ hr _ ⟨_, _, r117⟩ (Fr.rf.tr fa117 (fun _ h => h))
