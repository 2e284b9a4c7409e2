section GLZ
theorem and63 (v : Int32) : ∃ n, n < 64 ∧ v &&& 63 = nI n := by
  refine ⟨(v &&& 63).toUInt32.toNat, ?_, ?_⟩
  · have e : (v &&& 63).toUInt32 = v.toUInt32 &&& 63 := rfl
    rw [e, UInt32.toNat_and]
    exact Nat.lt_succ_of_le Nat.and_le_right
  · generalize v &&& 63 = w
    show w = Int32.ofNat w.toUInt32.toNat
    rw [← Int32.toBitVec_inj]
    show w.toBitVec = BitVec.ofNat 32 w.toBitVec.toNat
    rw [BitVec.ofNat_toNat, BitVec.setWidth_eq]
theorem loopc {a L : Nat} (ha3 : 3 ≤ a) (ha : a + 6 < 2 ^ 31) (hL : L < 2 ^ 31) : nI L - 6 < nI a ↔ L < a + 6 := by
  by_cases h6 : 6 ≤ L
  · have e : nI L - 6 = nI (L - 6) := by
      have e1 : nI L = nI (L - 6) + 6 := by
        rw [show (6 : Int32) = nI 6 from rfl, nI_add, show L - 6 + 6 = L by omega]
      rw [e1, Int32.add_sub_cancel]
    rw [e, nI_ltI (by omega) (by omega)]
    omega
  · have e : nI L - 6 < 0 := by
      rcases (show L = 0 ∨ L = 1 ∨ L = 2 ∨ L = 3 ∨ L = 4 ∨ L = 5 by omega) with rfl | rfl | rfl | rfl | rfl | rfl <;> decide
    have e2 : (0 : Int32) ≤ nI a := nI_le (Nat.zero_le a) (by omega)
    exact ⟨fun _ => by omega, fun _ => Int32.lt_of_lt_of_le e e2⟩
def tb_L_cell : List (Nat × Instr × Nat) := [(0, .iload_n 1, 1), (1, .aload_n 0, 1), (2, .arraylength, 1), (3, .if_icmp .ge 9, 3), (6, .aload_n 0, 1), (7, .iload_n 1, 1), (8, .iaload, 1), (9, .goto 4, 3), (12, .iconst 0, 1), (13, .ireturn, 1)]
theorem tv_L_cell : Tv cL_cell tb_L_cell := by
  unfold Tv
  decide +kernel
set_option maxRecDepth 100000 in
set_option maxHeartbeats 4000000 in
theorem c_L_cell (E : gE) (f : Nat → va_E) (b L : Nat) (xs : Nat → Int32) (hL : L < 2 ^ 31) (hbE : ∀ k, k < gN E → gAd E k ≠ b) (j : Nat) (hj : j < 2 ^ 31) : CtZ (Sc b L xs) E 1 yL_cell cL_cell 2 (some .int) [.ref b, .int (nI j)] f (fun v g => v = some (.int (if j < L then xs j else 0)) ∧ g = f, fun _ _ => False) := by
  refine CtZ.of (by decide) (Nat.le_of_ble_eq_true rfl) (fun sz => ?_)
  have hA : b < sz → ¬ va_A (wl E.2.2.2.1 E.2.2.2.2 f) sz b := by
    intro hb hq
    rcases hq with ⟨k, e, hk⟩ | hq
    · obtain ⟨h1, e1⟩ := wl_lt hk
      exact hbE k h1 (congrArg Prod.fst e1).symm
    · exact Nat.not_le.mpr hb hq
  refine G.eql [(0, .ref b), (1, .int (nI j))] rfl ?_
  refine G.go tv_L_cell 2 2 [(0, .ref b), (1, .int (nI j))] [.ref b, .int (nI j)] rfl ?_
  refine G.slen (fun _ _ h => h) hA (tbd tv_L_cell rfl) ?_
  refine G.cmp_ge 12 (tbd tv_L_cell rfl) (by decide) (fun c3 => ?_) (fun c3 => ?_)
  · refine G.go tv_L_cell 1 13 [(0, .ref b), (1, .int (nI j))] [.int (0 : Int32)] rfl ?_
    exact G.iretZ rfl rfl ⟨by rw [if_neg (fun q => nI_ge q hL c3)], rfl⟩ (tbd tv_L_cell rfl)
  · have hlt : j < L := Nat.not_le.mp (fun q => c3 (nI_le q hj))
    refine G.go tv_L_cell 2 8 [(0, .ref b), (1, .int (nI j))] [.int (nI j), .ref b] rfl ?_
    refine G.sld (fun _ _ h => h) hA j hlt hL (tbd tv_L_cell rfl) ?_
    refine G.go tv_L_cell 1 13 [(0, .ref b), (1, .int (nI j))] [.int (xs j)] rfl ?_
    exact G.iretZ rfl rfl ⟨by rw [if_pos hlt], rfl⟩ (tbd tv_L_cell rfl)
theorem w_630 : Cond.methodLink "LedgerFilesLaw" 156 yL_cell ∈ TB := tp_3 4 (by decide +kernel) rfl
theorem w_632 : Cond.code yL_cell method_2_code 2 (some .int) ∈ TB := tp_3 6 rfl rfl
theorem cw_L_156 : Cw RL 156 yL_cell cL_cell 2 (some .int) 2 := ⟨w_630, w_632, w_146, by decide +kernel, by decide +kernel, by decide⟩
theorem w_631 : Cond.static yL_cell ∈ TB := tp_3 5 (by decide +kernel) rfl
/-- the law's call of cell -/
theorem G.cell {E : gE} {h sz cu su b L : Nat} {xs : Nat → Int32} {f : Nat → va_E} {pc : Nat} {lv : List (Nat × Value)} (j : Nat) (rest : List Value) {z : Int32} (hz : z = nI j) (hj : j < 2 ^ 31) (hL : L < 2 ^ 31) (hc : cu + 1 ≤ room_1.cells) (hs : su + 6 ≤ room_1.slots) (hcat : (rest.map fun v => v.category).sum ≤ 8) (d : decode code pc = .ok (.invokestatic 156, 3))
    (kk : G E (lwK h sz) code (gL b L xs cu su) (pc + 3) lv (.int (if j < L then xs j else 0) :: rest) f) : G E (lwK h sz) code (gL b L xs cu su) pc lv (.int z :: .ref b :: rest) f := by
  subst hz
  refine G.callSZ (Z := Sc b L xs) (Q := (room_1, cu, su, fun below args s => lw_Z below args s)) [.ref b, .int (nI j)] rest Sc_blind Sc_moved (fun hA a s hy hsz => c_L_cell E f b L xs hL (fun k hk q => ?_) j hj) cw_L_156 w_631 (Nat.le_of_ble_eq_true rfl) (Nat.le_of_ble_eq_true rfl) hc hs rfl hcat d (fun v g q => ?_) (fun X g q => q)
  · have h1 : sz ≤ gAd E k := hA k hk
    have h2 : b < sz := Nat.lt_of_lt_of_eq hy.2.2 hsz
    exact absurd (q ▸ h1) (Nat.not_le.mpr h2)
  · obtain ⟨rfl, rfl⟩ := q
    exact kk
/-- what a call of the script asks: the class and the reference answer alike, and what holds behind it -/
def Case (E : gE) (f : Nat → va_E) (a : Nat → Int32) (Inv : (Nat → va_E) → Prop) : Nat → Prop
  | 0 => CsF E f yX11_feed cX11_feed 6 yX12_feed cX12_feed 8 [.int (a 1), .int (a 2), .int (a 3), .int (a 4), .int (a 5)] Inv
  | 1 => CsF E f yX11_back cX11_back 2 yX12_back cX12_back 2 [.int (a 1)] Inv
  | 2 => CsI E f yX11_format cX11_format 3 yX12_format cX12_format 2 [] [xI, xU] Inv
  | 3 => CsI E f yX11_mount cX11_mount 2 yX12_mount cX12_mount 6 [] [xI, xU, xA] Inv
  | 4 => CsV E f yX11_unmount cX11_unmount 1 yX12_unmount cX12_unmount 2 [] [xI, xU] Inv
  | 5 => CsI E f yX11_make cX11_make 6 yX12_make cX12_make 8 [.int (sB (a 1))] [xI, xU] Inv
  | 6 => CsI E f yX11_remove cX11_remove 4 yX12_remove cX12_remove 6 [] [xI, xU] Inv
  | 7 => CsI E f yX11_rename cX11_rename 9 yX12_rename cX12_rename 10 [] [xI, xU] Inv
  | 8 => CsI E f yX11_link cX11_link 5 yX12_link cX12_link 6 [] [xI, xU] Inv
  | 9 => CsI E f yX11_clear cX11_clear 8 yX12_clear cX12_clear 7 [] [xI, xU] Inv
  | 10 => CsI E f yX11_copy cX11_copy 6 yX12_copy cX12_copy 8 [] [xI, xU] Inv
  | 11 => CsI E f yX11_find cX11_find 2 yX12_find cX12_find 3 [] [xI] Inv
  | 12 => CsI E f yX11_write cX11_write 5 yX12_write cX12_write 5 [.int (a 1), .int (a 2)] [xI, xU] Inv
  | 13 => CsI E f yX11_fill cX11_fill 7 yX12_fill cX12_fill 6 [.int (a 1), .int (a 2), .int (a 3), .int (a 4)] [xI, xU, xA] Inv
  | 14 => CsI E f yX11_truncate cX11_truncate 5 yX12_truncate cX12_truncate 4 [.int (a 1), .int (a 2)] [xI, xU] Inv
  | 15 => CsI E f yX11_mark cX11_mark 3 yX12_mark cX12_mark 3 [.int (a 1), .int (a 2)] [xI, xU] Inv
  | 16 => CsI E f yX11_punch cX11_punch 11 yX12_punch cX12_punch 12 [.int (a 1), .int (a 2), .int (a 3)] [xI, xU] Inv
  | 17 => CsI E f yX11_hold cX11_hold 2 yX12_hold cX12_hold 2 [.int (a 1)] [xI] Inv
  | 18 => CsI E f yX11_release cX11_release 3 yX12_release cX12_release 2 [.int (a 1)] [xI, xU] Inv
  | 19 => CsI E f yX11_read cX11_read 3 yX12_read cX12_read 4 [.int (a 1), .int (a 2)] [xI] Inv
  | 20 => CsI E f yX11_about cX11_about 4 yX12_about cX12_about 4 [.int (a 1), .int (a 2)] [xI, xA] Inv
  | 21 => CsI E f yX11_where cX11_where 3 yX12_where cX12_where 3 [.int (a 1), .int (a 2)] [xI, xA] Inv
  | 22 => CsI E f yX11_entry cX11_entry 4 yX12_entry cX12_entry 4 [.int (a 1), .int (a 2)] [xI, xN] Inv
  | 23 => CsI E f yX11_letter cX11_letter 5 yX12_letter cX12_letter 5 [.int (a 1), .int (a 2), .int (a 3)] [xI, xN] Inv
  | 24 => CsI E f yX11_open cX11_open 9 yX12_open cX12_open 9 [.int (a 1)] [xI, xU, xA] Inv
  | 25 => CsI E f yX11_close cX11_close 3 yX12_close cX12_close 3 [.int (a 1)] [xI, xU] Inv
  | 26 => CsI E f yX11_put cX11_put 6 yX12_put cX12_put 5 [.int (a 1)] [xI, xU] Inv
  | 27 => CsI E f yX11_get cX11_get 3 yX12_get cX12_get 4 [.int (a 1)] [xI] Inv
  | 28 => CsI E f yX11_seek cX11_seek 4 yX12_seek cX12_seek 4 [.int (a 1), .int (a 2)] [xI] Inv
  | 29 => CsI E f yX11_look cX11_look 3 yX12_look cX12_look 3 [.int (a 1), .int (a 2)] [xI, xA] Inv
  | 30 => CsB E f yX11_begin cX11_begin 1 yX12_begin cX12_begin 1 [] [xI] Inv
  | 31 => CsI E f yX11_end cX11_end 2 yX12_end cX12_end 2 [] [xI, xU] Inv
  | 32 => CsI E f yX11_undo cX11_undo 1 yX12_undo cX12_undo 1 [] [xI, xU] Inv
  | 33 => CsI E f yX11_flush cX11_flush 1 yX12_flush cX12_flush 1 [] [xI, xU] Inv
  | 34 => CsI E f yX11_sync cX11_sync 6 yX12_sync cX12_sync 7 [.int (a 1)] [xI, xU] Inv
  | 35 => CsI E f yX11_apply cX11_apply 2 yX12_apply cX12_apply 2 [] [xI, xU] Inv
  | 36 => CsV E f yX11_power cX11_power 2 yX12_power cX12_power 2 [.int (a 1)] [xI, xA] Inv
  | 37 => CsV E f yX11_crash cX11_crash 1 yX12_crash cX12_crash 1 [] [xI] Inv
  | 38 => CsI E f yX11_restart cX11_restart 3 yX12_restart cX12_restart 12 [.long ((((a 1 : Int32).toInt64) <<< (((32 : Int32) : Int32).toInt64 &&& 63)) ||| (((a 2 : Int32).toInt64) &&& ((4294967295 : Int64))))] [xI] Inv
  | 39 => CsI E f yX11_byteAt cX11_byteAt 3 yX12_byteAt cX12_byteAt 3 [.int (a 1), .int (a 2)] [xN] Inv
  | 40 => CsI E f yX11_waiting cX11_waiting 2 yX12_waiting cX12_waiting 2 [.int (a 1)] [xN] Inv
  | 41 => CsI E f yX11_seen cX11_seen 3 yX12_seen cX12_seen 3 [.int (a 1), .int (a 2)] [xI, xN] Inv
  | 42 => CsJ E f yX11_tree cX11_tree 10 yX12_tree cX12_tree 2 [.int (sB (a 1))] [xI] Inv
  | 43 => CsI E f yX11_check cX11_check 1 yX12_check cX12_check 2 [] [xI] Inv
  | 44 => CsI E f yX11_count cX11_count 2 yX12_count cX12_count 2 [.int (a 1)] [xA] Inv
  | _ => True
def tb_law_head : List (Nat × Instr × Nat) := [(0, .new 8, 3), (3, .dup, 1), (4, .aload_n 0, 1), (5, .iconst 0, 1), (6, .invokestatic 156, 3), (9, .aload_n 0, 1), (10, .iconst 1, 1), (11, .invokestatic 156, 3), (14, .aload_n 0, 1), (15, .iconst 2, 1), (16, .invokestatic 156, 3), (19, .invokespecial 162, 3), (22, .astore_n 1, 1), (23, .new 165, 3), (26, .dup, 1), (27, .aload_n 0, 1), (28, .iconst 0, 1), (29, .invokestatic 156, 3), (32, .aload_n 0, 1), (33, .iconst 1, 1), (34, .invokestatic 156, 3), (37, .aload_n 0, 1), (38, .iconst 2, 1), (39, .invokestatic 156, 3), (42, .invokespecial 167, 3), (45, .astore_n 2, 1), (46, .iconst 1, 1), (47, .newarray .long, 2), (49, .astore_n 3, 1), (50, .iconst 3, 1), (51, .istore 4, 2), (53, .iload 4, 2), (55, .aload_n 0, 1), (56, .arraylength, 1), (57, .bipush 6, 2), (59, .isub, 1), (60, .if_icmp .gt 2750, 3), (63, .aload_n 0, 1), (64, .iload 4, 2), (66, .iaload, 1), (67, .bipush 63, 2), (69, .iand, 1), (70, .tableswitch 2734 0 44 #[194, 267, 292, 336, 380, 404, 476, 520, 564, 608, 652, 696, 740, 808, 900, 968, 1036, 1116, 1172, 1228, 1296, 1364, 1432, 1500, 1580, 1636, 1692, 1748, 1804, 1872, 1940, 1991, 2035, 2079, 2123, 2179, 2223, 2259, 2283, 2371, 2439, 2495, 2563, 2634, 2678], 194), (2804, .iinc 4 6, 3), (2807, .goto (-2754), 3), (2810, .iconst 1, 1), (2811, .ireturn, 1)]
theorem tv_law_head : Tv code tb_law_head := by
  unfold Tv
  decide +kernel
set_option maxRecDepth 100000 in
set_option maxHeartbeats 4000000 in
theorem law_sw (E : gE) (f : Nat → va_E) (hE : 94 ≤ gN E) (b L : Nat) (xs : Nat → Int32) (cu su h sz i : Nat) (hi : i + 5 < L) (hL2 : L < 2 ^ 31) (hcu : cu + 2 ≤ room_1.cells) (hsu : su + 12 ≤ room_1.slots) (Inv : (Nat → va_E) → Prop) (H : ∀ n, n < 45 → Case E f (fun j => xs (i + j)) Inv n) (H2 : Inv f) (kk : ∀ g, Inv g → G E (lwK h sz) code (gL b L xs (cu + 1) (su + 6)) 2804 [(0, .ref b), (1, .ref (gAd E (0))), (2, .ref (gAd E (56))), (3, .ref (gAd E (93))), (4, .int (nI (i)))] [] g) : G E (lwK h sz) code (gL b L xs cu su) 63 [(0, .ref b), (1, .ref (gAd E (0))), (2, .ref (gAd E (56))), (3, .ref (gAd E (93))), (4, .int (nI (i)))] [] f := by
  refine G.go tv_law_head 2 66 [(0, .ref b), (1, .ref (gAd E (0))), (2, .ref (gAd E (56))), (3, .ref (gAd E (93))), (4, .int (nI (i)))] [.int (nI i), .ref b] rfl ?_
  refine G.sld lwY_S lwK_A i (by omega) hL2 (tbd tv_law_head rfl) ?_
  refine G.go tv_law_head 2 70 [(0, .ref b), (1, .ref (gAd E (0))), (2, .ref (gAd E (56))), (3, .ref (gAd E (93))), (4, .int (nI (i)))] [.int (xs i &&& (63 : Int32))] rfl ?_
  obtain ⟨n, hn, e⟩ := and63 (xs i)
  refine G.eqs [.int (nI n)] (by rw [e]) ?_
  by_cases h45 : n < 45
  · have H := H n h45
    match n, h45, H with
    | 0, _, H => exact G.tswI 264 (194) (tbd tv_law_head rfl) (by decide) (by decide) (by decide) (by decide) (k_feed E f hE b L xs cu su h sz i hi hL2 hcu hsu Inv H kk)
    | 1, _, H => exact G.tswI 337 (267) (tbd tv_law_head rfl) (by decide) (by decide) (by decide) (by decide) (k_back E f hE b L xs cu su h sz i hi hL2 hcu hsu Inv H kk)
    | 2, _, H => exact G.tswI 362 (292) (tbd tv_law_head rfl) (by decide) (by decide) (by decide) (by decide) (k_format E f hE b L xs cu su h sz i hi hL2 hcu hsu Inv H kk)
    | 3, _, H => exact G.tswI 406 (336) (tbd tv_law_head rfl) (by decide) (by decide) (by decide) (by decide) (k_mount E f hE b L xs cu su h sz i hi hL2 hcu hsu Inv H kk)
    | 4, _, H => exact G.tswI 450 (380) (tbd tv_law_head rfl) (by decide) (by decide) (by decide) (by decide) (k_unmount E f hE b L xs cu su h sz i hi hL2 hcu hsu Inv H kk)
    | 5, _, H => exact G.tswI 474 (404) (tbd tv_law_head rfl) (by decide) (by decide) (by decide) (by decide) (k_make E f hE b L xs cu su h sz i hi hL2 hcu hsu Inv H kk)
    | 6, _, H => exact G.tswI 546 (476) (tbd tv_law_head rfl) (by decide) (by decide) (by decide) (by decide) (k_remove E f hE b L xs cu su h sz i hi hL2 hcu hsu Inv H kk)
    | 7, _, H => exact G.tswI 590 (520) (tbd tv_law_head rfl) (by decide) (by decide) (by decide) (by decide) (k_rename E f hE b L xs cu su h sz i hi hL2 hcu hsu Inv H kk)
    | 8, _, H => exact G.tswI 634 (564) (tbd tv_law_head rfl) (by decide) (by decide) (by decide) (by decide) (k_link E f hE b L xs cu su h sz i hi hL2 hcu hsu Inv H kk)
    | 9, _, H => exact G.tswI 678 (608) (tbd tv_law_head rfl) (by decide) (by decide) (by decide) (by decide) (k_clear E f hE b L xs cu su h sz i hi hL2 hcu hsu Inv H kk)
    | 10, _, H => exact G.tswI 722 (652) (tbd tv_law_head rfl) (by decide) (by decide) (by decide) (by decide) (k_copy E f hE b L xs cu su h sz i hi hL2 hcu hsu Inv H kk)
    | 11, _, H => exact G.tswI 766 (696) (tbd tv_law_head rfl) (by decide) (by decide) (by decide) (by decide) (k_find E f hE b L xs cu su h sz i hi hL2 hcu hsu Inv H kk)
    | 12, _, H => exact G.tswI 810 (740) (tbd tv_law_head rfl) (by decide) (by decide) (by decide) (by decide) (k_write E f hE b L xs cu su h sz i hi hL2 hcu hsu Inv H kk)
    | 13, _, H => exact G.tswI 878 (808) (tbd tv_law_head rfl) (by decide) (by decide) (by decide) (by decide) (k_fill E f hE b L xs cu su h sz i hi hL2 hcu hsu Inv H kk)
    | 14, _, H => exact G.tswI 970 (900) (tbd tv_law_head rfl) (by decide) (by decide) (by decide) (by decide) (k_truncate E f hE b L xs cu su h sz i hi hL2 hcu hsu Inv H kk)
    | 15, _, H => exact G.tswI 1038 (968) (tbd tv_law_head rfl) (by decide) (by decide) (by decide) (by decide) (k_mark E f hE b L xs cu su h sz i hi hL2 hcu hsu Inv H kk)
    | 16, _, H => exact G.tswI 1106 (1036) (tbd tv_law_head rfl) (by decide) (by decide) (by decide) (by decide) (k_punch E f hE b L xs cu su h sz i hi hL2 hcu hsu Inv H kk)
    | 17, _, H => exact G.tswI 1186 (1116) (tbd tv_law_head rfl) (by decide) (by decide) (by decide) (by decide) (k_hold E f hE b L xs cu su h sz i hi hL2 hcu hsu Inv H kk)
    | 18, _, H => exact G.tswI 1242 (1172) (tbd tv_law_head rfl) (by decide) (by decide) (by decide) (by decide) (k_release E f hE b L xs cu su h sz i hi hL2 hcu hsu Inv H kk)
    | 19, _, H => exact G.tswI 1298 (1228) (tbd tv_law_head rfl) (by decide) (by decide) (by decide) (by decide) (k_read E f hE b L xs cu su h sz i hi hL2 hcu hsu Inv H kk)
    | 20, _, H => exact G.tswI 1366 (1296) (tbd tv_law_head rfl) (by decide) (by decide) (by decide) (by decide) (k_about E f hE b L xs cu su h sz i hi hL2 hcu hsu Inv H kk)
    | 21, _, H => exact G.tswI 1434 (1364) (tbd tv_law_head rfl) (by decide) (by decide) (by decide) (by decide) (k_where E f hE b L xs cu su h sz i hi hL2 hcu hsu Inv H kk)
    | 22, _, H => exact G.tswI 1502 (1432) (tbd tv_law_head rfl) (by decide) (by decide) (by decide) (by decide) (k_entry E f hE b L xs cu su h sz i hi hL2 hcu hsu Inv H kk)
    | 23, _, H => exact G.tswI 1570 (1500) (tbd tv_law_head rfl) (by decide) (by decide) (by decide) (by decide) (k_letter E f hE b L xs cu su h sz i hi hL2 hcu hsu Inv H kk)
    | 24, _, H => exact G.tswI 1650 (1580) (tbd tv_law_head rfl) (by decide) (by decide) (by decide) (by decide) (k_open E f hE b L xs cu su h sz i hi hL2 hcu hsu Inv H kk)
    | 25, _, H => exact G.tswI 1706 (1636) (tbd tv_law_head rfl) (by decide) (by decide) (by decide) (by decide) (k_close E f hE b L xs cu su h sz i hi hL2 hcu hsu Inv H kk)
    | 26, _, H => exact G.tswI 1762 (1692) (tbd tv_law_head rfl) (by decide) (by decide) (by decide) (by decide) (k_put E f hE b L xs cu su h sz i hi hL2 hcu hsu Inv H kk)
    | 27, _, H => exact G.tswI 1818 (1748) (tbd tv_law_head rfl) (by decide) (by decide) (by decide) (by decide) (k_get E f hE b L xs cu su h sz i hi hL2 hcu hsu Inv H kk)
    | 28, _, H => exact G.tswI 1874 (1804) (tbd tv_law_head rfl) (by decide) (by decide) (by decide) (by decide) (k_seek E f hE b L xs cu su h sz i hi hL2 hcu hsu Inv H kk)
    | 29, _, H => exact G.tswI 1942 (1872) (tbd tv_law_head rfl) (by decide) (by decide) (by decide) (by decide) (k_look E f hE b L xs cu su h sz i hi hL2 hcu hsu Inv H kk)
    | 30, _, H => exact G.tswI 2010 (1940) (tbd tv_law_head rfl) (by decide) (by decide) (by decide) (by decide) (k_begin E f hE b L xs cu su h sz i hi hL2 hcu hsu Inv H kk)
    | 31, _, H => exact G.tswI 2061 (1991) (tbd tv_law_head rfl) (by decide) (by decide) (by decide) (by decide) (k_end E f hE b L xs cu su h sz i hi hL2 hcu hsu Inv H kk)
    | 32, _, H => exact G.tswI 2105 (2035) (tbd tv_law_head rfl) (by decide) (by decide) (by decide) (by decide) (k_undo E f hE b L xs cu su h sz i hi hL2 hcu hsu Inv H kk)
    | 33, _, H => exact G.tswI 2149 (2079) (tbd tv_law_head rfl) (by decide) (by decide) (by decide) (by decide) (k_flush E f hE b L xs cu su h sz i hi hL2 hcu hsu Inv H kk)
    | 34, _, H => exact G.tswI 2193 (2123) (tbd tv_law_head rfl) (by decide) (by decide) (by decide) (by decide) (k_sync E f hE b L xs cu su h sz i hi hL2 hcu hsu Inv H kk)
    | 35, _, H => exact G.tswI 2249 (2179) (tbd tv_law_head rfl) (by decide) (by decide) (by decide) (by decide) (k_apply E f hE b L xs cu su h sz i hi hL2 hcu hsu Inv H kk)
    | 36, _, H => exact G.tswI 2293 (2223) (tbd tv_law_head rfl) (by decide) (by decide) (by decide) (by decide) (k_power E f hE b L xs cu su h sz i hi hL2 hcu hsu Inv H kk)
    | 37, _, H => exact G.tswI 2329 (2259) (tbd tv_law_head rfl) (by decide) (by decide) (by decide) (by decide) (k_crash E f hE b L xs cu su h sz i hi hL2 hcu hsu Inv H kk)
    | 38, _, H => exact G.tswI 2353 (2283) (tbd tv_law_head rfl) (by decide) (by decide) (by decide) (by decide) (k_restart E f hE b L xs cu su h sz i hi hL2 hcu hsu Inv H kk)
    | 39, _, H => exact G.tswI 2441 (2371) (tbd tv_law_head rfl) (by decide) (by decide) (by decide) (by decide) (k_byteAt E f hE b L xs cu su h sz i hi hL2 hcu hsu Inv H kk)
    | 40, _, H => exact G.tswI 2509 (2439) (tbd tv_law_head rfl) (by decide) (by decide) (by decide) (by decide) (k_waiting E f hE b L xs cu su h sz i hi hL2 hcu hsu Inv H kk)
    | 41, _, H => exact G.tswI 2565 (2495) (tbd tv_law_head rfl) (by decide) (by decide) (by decide) (by decide) (k_seen E f hE b L xs cu su h sz i hi hL2 hcu hsu Inv H kk)
    | 42, _, H => exact G.tswI 2633 (2563) (tbd tv_law_head rfl) (by decide) (by decide) (by decide) (by decide) (k_tree E f hE b L xs cu su h sz i hi hL2 hcu hsu Inv H kk)
    | 43, _, H => exact G.tswI 2704 (2634) (tbd tv_law_head rfl) (by decide) (by decide) (by decide) (by decide) (k_check E f hE b L xs cu su h sz i hi hL2 hcu hsu Inv H kk)
    | 44, _, H => exact G.tswI 2748 (2678) (tbd tv_law_head rfl) (by decide) (by decide) (by decide) (by decide) (k_count E f hE b L xs cu su h sz i hi hL2 hcu hsu Inv H kk)
    | n + 45, h, _ => exact absurd h (by omega)
  · refine G.tswO 2804 (tbd tv_law_head rfl) (Or.inr ?_) (by decide) ?_
    · rcases (show n = 45 ∨ n = 46 ∨ n = 47 ∨ n = 48 ∨ n = 49 ∨ n = 50 ∨ n = 51 ∨ n = 52 ∨ n = 53 ∨ n = 54 ∨ n = 55 ∨ n = 56 ∨ n = 57 ∨ n = 58 ∨ n = 59 ∨ n = 60 ∨ n = 61 ∨ n = 62 ∨ n = 63 by omega) with rfl | rfl | rfl | rfl | rfl | rfl | rfl | rfl | rfl | rfl | rfl | rfl | rfl | rfl | rfl | rfl | rfl | rfl | rfl <;> decide
    · refine G.wide (cu + 1) (su + 6) (by show cu ≤ cu + 1; omega) (by show su ≤ su + 6; omega) ?_
      exact kk f H2
set_option maxRecDepth 100000 in
set_option maxHeartbeats 4000000 in
theorem law_loop (E : gE) (hE : 94 ≤ gN E) (b L : Nat) (xs : Nat → Int32) (h sz T : Nat) (hL2 : L < 1000000) (hT : L < 3 + 6 * T + 6) (hT2 : T < 1000000) (Inv : Nat → (Nat → va_E) → Prop)
    (step : ∀ t f, t < T → 3 + 6 * t + 5 < L → Inv t f → ∀ n, n < 45 → Case E f (fun j => xs (3 + 6 * t + j)) (Inv (t + 1)) n) (skip : ∀ t f, t < T → Inv t f → Inv (t + 1) f) :
    ∀ d t f cu su, t + d = T → Inv t f → cu + d + 2 ≤ room_1.cells → su + 6 * d + 12 ≤ room_1.slots → G E (lwK h sz) code (gL b L xs cu su) 53 [(0, .ref b), (1, .ref (gAd E (0))), (2, .ref (gAd E (56))), (3, .ref (gAd E (93))), (4, .int (nI (3 + 6 * t)))] [] f := by
  intro d
  induction d with
  | zero =>
    intro t f cu su e hI hc hs
    refine G.go tv_law_head 2 56 [(0, .ref b), (1, .ref (gAd E (0))), (2, .ref (gAd E (56))), (3, .ref (gAd E (93))), (4, .int (nI (3 + 6 * t)))] [.ref b, .int (nI (3 + 6 * t))] rfl ?_
    refine G.slen lwY_S lwK_A (tbd tv_law_head rfl) ?_
    refine G.go tv_law_head 2 60 [(0, .ref b), (1, .ref (gAd E (0))), (2, .ref (gAd E (56))), (3, .ref (gAd E (93))), (4, .int (nI (3 + 6 * t)))] [.int (nI L - (6 : Int32)), .int (nI (3 + 6 * t))] rfl ?_
    refine G.cmp_gt 2810 (tbd tv_law_head rfl) (by decide) (fun c60 => ?_) (fun c60 => absurd ((loopc (by omega) (by omega) (by omega)).mpr (by omega)) c60)
    refine G.go tv_law_head 1 2811 [(0, .ref b), (1, .ref (gAd E (0))), (2, .ref (gAd E (56))), (3, .ref (gAd E (93))), (4, .int (nI (3 + 6 * t)))] [.int (1 : Int32)] rfl ?_
    exact G.lwret (by omega) (by omega) (tbd tv_law_head rfl)
  | succ d ih =>
    intro t f cu su e hI hc hs
    refine G.go tv_law_head 2 56 [(0, .ref b), (1, .ref (gAd E (0))), (2, .ref (gAd E (56))), (3, .ref (gAd E (93))), (4, .int (nI (3 + 6 * t)))] [.ref b, .int (nI (3 + 6 * t))] rfl ?_
    refine G.slen lwY_S lwK_A (tbd tv_law_head rfl) ?_
    refine G.go tv_law_head 2 60 [(0, .ref b), (1, .ref (gAd E (0))), (2, .ref (gAd E (56))), (3, .ref (gAd E (93))), (4, .int (nI (3 + 6 * t)))] [.int (nI L - (6 : Int32)), .int (nI (3 + 6 * t))] rfl ?_
    refine G.cmp_gt 2810 (tbd tv_law_head rfl) (by decide) (fun c60 => ?_) (fun c60 => ?_)
    · refine G.go tv_law_head 1 2811 [(0, .ref b), (1, .ref (gAd E (0))), (2, .ref (gAd E (56))), (3, .ref (gAd E (93))), (4, .int (nI (3 + 6 * t)))] [.int (1 : Int32)] rfl ?_
      exact G.lwret (by omega) (by omega) (tbd tv_law_head rfl)
    · have hi : 3 + 6 * t + 5 < L := by
        have q : ¬ L < 3 + 6 * t + 6 := fun q => c60 ((loopc (by omega) (by omega) (by omega)).mpr q)
        omega
      refine law_sw E f hE b L xs cu su h sz (3 + 6 * t) hi (by omega) (by omega) (by omega) (Inv (t + 1)) (step t f (by omega) hi hI) (skip t f (by omega) hI) (fun g hg => ?_)
      refine G.go tv_law_head 2 53 [(0, .ref b), (1, .ref (gAd E (0))), (2, .ref (gAd E (56))), (3, .ref (gAd E (93))), (4, .int (nI (3 + 6 * t) + (6 : Int32)))] [] rfl ?_
      refine G.eql [(0, .ref b), (1, .ref (gAd E (0))), (2, .ref (gAd E (56))), (3, .ref (gAd E (93))), (4, .int (nI (3 + 6 * (t + 1))))] (by rw [show (6 : Int32) = nI 6 from rfl, nI_add, show 3 + 6 * t + 6 = 3 + 6 * (t + 1) by omega]) ?_
      exact ih (t + 1) g (cu + 1) (su + 6) (by omega) hg (by omega) (by omega)
end GLZ
