theorem mStep_a1 {N B : Nat} {bt L : List En} {tu : Int32} {hw : Hw} (h : 40 < L.length + bt.length) (ha : (aApl N B L tu hw).1 = false) : mStep N B bt (hw, L, tu) = (false, (aApl N B L tu hw).2, L, tu) := (if_pos h).trans (if_neg (by rw [ha]; decide))
theorem mStep_a2 {N B : Nat} {bt L : List En} {tu : Int32} {hw : Hw} (h : 40 < L.length + bt.length) (ha : (aApl N B L tu hw).1 = true) : mStep N B bt (hw, L, tu) = mAp2 N B bt ((aApl N B L tu hw).2, lApl L tu) := (if_pos h).trans (if_pos ha)
theorem mStep_b {N B : Nat} {bt L : List En} {tu : Int32} {hw : Hw} (h : ¬ 40 < L.length + bt.length) : mStep N B bt (hw, L, tu) = mAp2 N B bt (hw, L, tu) := if_neg h
theorem mx_eq {a b : Nat} (h : a ≤ b) (hb : b < 2 ^ 31) : (if nI a < nI b then nI b else nI a) = nI b := by
  by_cases c : a = b
  · rw [c]
    split <;> rfl
  · exact if_pos (nI_lt (by omega) hb)
theorem BtR.sm {N gr : Nat} {C C' : CfT} {bt : List En} {r : Nat → Nat} (h : BtR N gr C bt r) (hs : Sm [0, 1] C C') : BtR N gr C' bt r := by
  obtain ⟨h1, h2⟩ := h
  have e21 : cA C' 21 = cA C 21 := hs.2.1 21 (by decide)
  have e19 : cA C' 19 = cA C 19 := hs.2.1 19 (by decide)
  have e4 : ∀ r, cR C' 4 r = cR C 4 r := fun r => congrFun (hs.2.2 4 (by decide)) r
  refine ⟨(hs.1 1705 (by decide)).trans h1, fun k hk => ?_⟩
  rw [e21, e19, e4]
  exact h2 k hk
def tb_X9_flushAll : List (Nat × Instr × Nat) := [(0, .aload_n 0, 1), (1, .getfield 50, 3), (4, .istore_n 1, 1), (5, .iconst 0, 1), (6, .istore_n 2, 1), (7, .iload_n 2, 1), (8, .iload_n 1, 1), (9, .if_icmp .ge 50, 3), (12, .iload_n 2, 1), (13, .iconst 1, 1), (14, .iadd, 1), (15, .aload_n 0, 1), (16, .iload_n 2, 1), (17, .invokevirtual 87, 3), (20, .invokestatic 90, 3), (23, .istore_n 2, 1), (24, .aload_n 0, 1), (25, .getfield 15, 3), (28, .getfield 95, 3), (31, .aload_n 0, 1), (32, .getfield 68, 3), (35, .iadd, 1), (36, .bipush 40, 2), (38, .if_icmp .le 10, 3), (41, .aload_n 0, 1), (42, .getfield 15, 3), (45, .invokevirtual 100, 3), (48, .aload_n 0, 1), (49, .getfield 15, 3), (52, .aload_n 0, 1), (53, .invokevirtual 103, 3), (56, .goto (-49), 3), (59, .aload_n 0, 1), (60, .iconst 0, 1), (61, .putfield 46, 3), (64, .aload_n 0, 1), (65, .iconst 0, 1), (66, .putfield 50, 3), (69, .aload_n 0, 1), (70, .getfield 30, 3), (73, .iconst (-1), 1), (74, .invokestatic 33, 3), (77, .aload_n 0, 1), (78, .invokevirtual 107, 3), (81, .iload_n 1, 1), (82, .ireturn, 1)]
theorem tv_X9_flushAll : Tv cX9_flushAll tb_X9_flushAll := by
  unfold Tv
  decide +kernel
theorem w_1277 : Cond.methodLink "LedgerFiles$Queue" 87 yX9_fillBatch ∈ TB := tp_5 171 (by decide +kernel) rfl
theorem w_1280 : Cond.code yX9_fillBatch prog_11_method_14_code 4 (some .int) ∈ TB := tp_5 174 rfl rfl
theorem cw_X9_87 : Cw RX9 87 yX9_fillBatch cX9_fillBatch 4 (some .int) 1 := ⟨w_1277, w_1280, w_154, by decide +kernel, by decide +kernel, by decide⟩
theorem w_1279 : Cond.instanceMethod yX9_fillBatch ∈ TB := tp_5 173 (by decide +kernel) rfl
theorem w_20 : Cond.selects "LedgerFiles$Queue" yX9_fillBatch yX9_fillBatch ∈ TB := tp_0 20 (by decide +kernel) rfl
theorem w_1297 : Cond.methodLink "LedgerFiles$Queue" 90 yJ9_max_7cf53 ∈ TB := tp_5 191 (by decide +kernel) rfl
theorem w_326 : Cond.fieldLink "LedgerFiles$Queue" 95 "LedgerFiles$Log" "entries" "I" ∈ TB := tp_1 180 (by decide +kernel) rfl
theorem w_1299 : Cond.methodLink "LedgerFiles$Queue" 103 yX6_append ∈ TB := tp_5 193 (by decide +kernel) rfl
theorem w_1302 : Cond.code yX6_append prog_8_method_11_code 4 none ∈ TB := tp_5 196 rfl rfl
theorem cw_X9_103 : Cw RX9 103 yX6_append cX6_append 4 none 1 := ⟨w_1299, w_1302, w_153, by decide +kernel, by decide +kernel, by decide⟩
theorem w_1300 : Cond.instanceMethod yX6_append ∈ TB := tp_5 194 (by decide +kernel) rfl
theorem w_1301 : Cond.selects "LedgerFiles$Log" yX6_append yX6_append ∈ TB := tp_5 195 (by decide +kernel) rfl
theorem w_1298 : Cond.methodLink "LedgerFiles$Queue" 100 yX6_applyAll ∈ TB := tp_5 192 (by decide +kernel) rfl
theorem w_888 : Cond.code yX6_applyAll prog_8_method_12_code 3 none ∈ TB := tp_4 22 rfl rfl
theorem cw_X9_100 : Cw RX9 100 yX6_applyAll cX6_applyAll 3 none 0 := ⟨w_1298, w_888, w_153, by decide +kernel, by decide +kernel, by decide⟩
theorem w_886 : Cond.instanceMethod yX6_applyAll ∈ TB := tp_4 20 (by decide +kernel) rfl
theorem w_887 : Cond.selects "LedgerFiles$Log" yX6_applyAll yX6_applyAll ∈ TB := tp_4 21 (by decide +kernel) rfl
set_option maxRecDepth 100000 in
set_option maxHeartbeats 4000000 in
theorem fl_l (E : gE) (f0 : Nat → va_E) (sz : Nat) (A : Nat → Prop) (Q : gQ) (N B gr : Nat) (C0 : CfT) (hz : CfZ E N B gr) (qs : List QC) (en : Nat → Nat) (hq : QeR N gr C0 qs en) (O : Bool × mSt)
    (kq : ∀ g C s, CfV E g N B gr C → Fr CfK f0 g → HwR N B 1 s.1 C → HOk N B s.1 → LgR N C s.2.1 s.2.2 → LgD s.1 s.2.1 → SmQ C0 C → O = (true, s) → G E (10, yX9_flushAll, 3, (some .int), sz, A) cX9_flushAll (gO E (10, yX9_flushAll, 3, (some .int), sz, A) Q) 59 [(0, .ref (gAd E (17))), (1, .int (nI qs.length)), (2, .int (nI (qs.length)))] [] g)
    (hx : ∀ g C, CfV E g N B gr C → Fr CfK f0 g → HwR N B 0 (hFl O.2.1) C → SmQ C0 C → Byt (cA C 15) → O.1 = false → Q.2 "java/lang/UnsupportedOperationException" g) :
    ∀ (d i : Nat), qs.length ≤ i + d → i ≤ qs.length → ∀ f C hw L tu, CfV E f N B gr C → Fr CfK f0 f → HwR N B 1 hw C → HOk N B hw → LgR N C L tu → LgD hw L → SmQ C0 C → mFl N B d (qs.drop i) (hw, L, tu) = O → hSp hw + 100 * d + 200 < 2 ^ 31 → G E (10, yX9_flushAll, 3, (some .int), sz, A) cX9_flushAll (gO E (10, yX9_flushAll, 3, (some .int), sz, A) Q) 7 [(0, .ref (gAd E (17))), (1, .int (nI qs.length)), (2, .int (nI (i)))] [] f := by
  obtain ⟨z1, z2, z3, z4, z5, z6, z7⟩ := id hz
  have hgr := hq.2.2.1
  have hend : ∀ f C hw L tu, CfV E f N B gr C → Fr CfK f0 f → HwR N B 1 hw C → HOk N B hw → LgR N C L tu → LgD hw L → SmQ C0 C → O = (true, hw, L, tu) → G E (10, yX9_flushAll, 3, (some .int), sz, A) cX9_flushAll (gO E (10, yX9_flushAll, 3, (some .int), sz, A) Q) 7 [(0, .ref (gAd E (17))), (1, .int (nI qs.length)), (2, .int (nI (qs.length)))] [] f := by
    intro f C hw L tu h hf hh hok hl hld hsq hfin
    refine G.go tv_X9_flushAll 2 9 [(0, .ref (gAd E (17))), (1, .int (nI qs.length)), (2, .int (nI (qs.length)))] [.int (nI qs.length), .int (nI (qs.length))] rfl ?_
    refine G.cmp_ge 59 (tbd tv_X9_flushAll rfl) (by decide) (fun c9 => ?_) (fun c9 => absurd (nI_le (Nat.le_refl _) (by omega)) c9)
    exact kq _ C (hw, L, tu) h hf hh hok hl hld hsq hfin
  intro d
  induction d with
  | zero =>
    intro i e1 e2 f C hw L tu h hf hh hok hl hld hsq ho hsp
    have e : i = qs.length := by omega
    subst e
    exact hend f C hw L tu h hf hh hok hl hld hsq ho.symm
  | succ d ih =>
    intro i e1 e2 f C hw L tu h hf hh hok hl hld hsq ho hsp
    by_cases ce : i = qs.length
    · subst ce
      exact hend f C hw L tu h hf hh hok hl hld hsq (by rw [← ho, List.drop_length]; rfl)
    · have hil : i < qs.length := by omega
      have hqc := hq.smq hsq
      refine G.go tv_X9_flushAll 2 9 [(0, .ref (gAd E (17))), (1, .int (nI qs.length)), (2, .int (nI (i)))] [.int (nI qs.length), .int (nI (i))] rfl ?_
      refine G.cmp_ge 59 (tbd tv_X9_flushAll rfl) (by decide) (fun c9 => absurd c9 (nI_ge (by omega) (by omega))) (fun c9 => ?_)
      refine G.go tv_X9_flushAll 5 17 [(0, .ref (gAd E (17))), (1, .int (nI qs.length)), (2, .int (nI (i)))] [.int (nI (i)), .ref (gAd E (17)), .int ((nI (i)) + ((1 : Int32)))] rfl ?_
      refine G.callV (17) [.int (nI (i))] [.int ((nI (i)) + ((1 : Int32)))] (r_fillBatch E _ N B gr C hz h qs en hqc i (by omega)) cls_X9 (by omega) (h.q17) cw_X9_87 w_1279 w_20 (Nat.le_of_ble_eq_true rfl) rfl (Nat.le_of_ble_eq_true rfl) (tbd tv_X9_flushAll rfl) (fun v1 f1 q1 => ?_) (fun _ _ h => h.elim)
      obtain ⟨i1, rfl, hi1, hr1, ⟨C1, hc1, ⟨r1, hb1⟩, hsb1⟩, fa1⟩ := q1
      refine G.eqs [.int (nI i1), .int ((nI (i)) + ((1 : Int32)))] rfl ?_
      have hO : O = if (mStep N B (qFill N (qs.drop i) []).1 (hw, L, tu)).1 = true then mFl N B d (qs.drop i1) (mStep N B (qFill N (qs.drop i) []).1 (hw, L, tu)).2 else mStep N B (qFill N (qs.drop i) []).1 (hw, L, tu) := by rw [← ho, ← hr1, qAt_drop hil]; rfl
      obtain ⟨b40, bN⟩ := qFill_40 (N := N) (qs.drop i) [] (by decide) (fun p hp => absurd hp List.not_mem_nil)
      have b43 := qFill_43 (N := N) (qs.drop i) [] (fun p hp => absurd hp List.not_mem_nil) (fun q hq2 => hq.q43 q (List.mem_of_mem_drop hq2))
      have hii : i + 1 ≤ i1 := by (rw [qAt_drop hil, qFill_t (hqc.one hil)] at hr1; have z := qFill_len (N := N) (qs.drop (i + 1)) (bJoin N [] (qAt qs i)); rw [hr1, List.length_drop, List.length_drop] at z; omega)
      generalize (qFill N (qs.drop i) []).1 = bt at hb1 hO b40 bN b43
      have hl1 := hl.sm hsb1.sm (by decide)
      have hh1 := hh.sm hsb1.sm (by decide)
      have h40 := hl.2.1
      have e13 : cS C1 1305 = nI L.length := hl1.1
      refine G.mmax w_1297 w_211 w_150 w_212 (Nat.le_of_ble_eq_true rfl) (Nat.le_of_ble_eq_true rfl) (by show _ ≤ _; first | exact Nat.zero_le _ | omega | exact Nat.le_refl _ | (unfold gO; dsimp only; omega)) (by show _ ≤ _; first | exact Nat.zero_le _ | omega | exact Nat.le_refl _ | (unfold gO; dsimp only; omega)) (tbd tv_X9_flushAll rfl) ?_
      refine G.eqs [.int (nI i1)] (by rw [nI_1, mx_eq hii (by omega)]) ?_
      refine G.go tv_X9_flushAll 2 25 [(0, .ref (gAd E (17))), (1, .int (nI qs.length)), (2, .int (nI i1))] [.ref (gAd E (17))] rfl ?_
      refine G.getf cls_X9 (17) 0 (by omega) (hc1.q17) (by decide) rfl (tbd tv_X9_flushAll rfl) w_353 ?_
      refine G.getf cls_X6 (13) 5 (by omega) (hc1.q13) (by decide) rfl (tbd tv_X9_flushAll rfl) w_326 ?_
      refine G.eqs [.int (nI L.length)] (by rw [e13]) ?_
      refine G.go tv_X9_flushAll 1 32 [(0, .ref (gAd E (17))), (1, .int (nI qs.length)), (2, .int (nI i1))] [.ref (gAd E (17)), .int (nI L.length)] rfl ?_
      refine G.getf cls_X9 (17) 5 (by omega) (hc1.q17) (by decide) rfl (tbd tv_X9_flushAll rfl) w_363 ?_
      refine G.eqs [.int (nI bt.length), .int (nI L.length)] (by rw [hb1.1]) ?_
      refine G.go tv_X9_flushAll 2 38 [(0, .ref (gAd E (17))), (1, .int (nI qs.length)), (2, .int (nI i1))] [.int ((40 : Int32)), .int ((nI L.length) + (nI bt.length))] rfl ?_
      refine G.cmp_le 48 (tbd tv_X9_flushAll rfl) (by decide) (fun c38 => ?_) (fun c38 => ?_)
      · skip
        refine G.go tv_X9_flushAll 1 49 [(0, .ref (gAd E (17))), (1, .int (nI qs.length)), (2, .int (nI i1))] [.ref (gAd E (17))] rfl ?_
        refine G.getf cls_X9 (17) 0 (by omega) (hc1.q17) (by decide) rfl (tbd tv_X9_flushAll rfl) w_353 ?_
        refine G.go tv_X9_flushAll 1 53 [(0, .ref (gAd E (17))), (1, .int (nI qs.length)), (2, .int (nI i1))] [.ref (gAd E (17)), .ref (gAd E (13))] rfl ?_
        have hng : ¬ 40 < L.length + bt.length := fun zz => by rw [nI_add] at c38; exact absurd c38 (nI_ge (a := 40) zz (by omega))
        have hst := mStep_b (N := N) (B := B) (tu := tu) (hw := hw) hng
        obtain ⟨m1, m2, m3⟩ := mApp_all (N := N) (B := B) (by omega) (L := L) (bt := bt) (tu := tu) hok (by omega)
        have mld := mApp_ld (N := N) (B := B) (by omega) (L := L) (bt := bt) (tu := tu) hok (by omega) hld b43
        refine G.callV (13) [.ref (gAd E (17))] [] (r_append E _ N B gr C1 hz hc1 hw hh1 hok (by omega) L bt tu r1 hl1 (fun k hk => (hld k hk).2.1) hb1 (by omega)) cls_X6 (by omega) (hc1.q13) cw_X9_103 w_1300 w_1301 (Nat.le_of_ble_eq_true rfl) rfl (Nat.le_of_ble_eq_true rfl) (tbd tv_X9_flushAll rfl) (fun v2 f2 q2 => ?_) (fun X g q => by obtain ⟨rfl, q2, ⟨C9, q3, q4, q5, q5b⟩, q6⟩ := q; have e8 : (mStep N B bt (hw, L, tu)).1 = false := (by rw [hst]; exact q2); have e9 : O = _ := hO.trans ((if_neg (by rw [e8]; decide)).trans hst); exact hx g C9 q3 ((hf.tr fa1 (fun _ h => h)).tr q6 (fun _ h => h)) (by rw [e9]; exact q4) ((hsq.tr hsb1.q).tr q5.q) q5b (by rw [e9]; exact q2))
        obtain ⟨rfl, ht2, ⟨C2, hc2, hh2, hs2⟩, fa2⟩ := q2
        refine G.eqs [] rfl ?_
        obtain ⟨hl3, hs3⟩ := hs2
        refine G.go tv_X9_flushAll 1 7 [(0, .ref (gAd E (17))), (1, .int (nI qs.length)), (2, .int (nI i1))] [] rfl ?_
        have e8 : (mStep N B bt (hw, L, tu)).1 = true := by rw [hst]; exact ht2
        refine G.eql [(0, .ref (gAd E (17))), (1, .int (nI qs.length)), (2, .int (nI (i1)))] rfl ?_
        exact ih i1 (by omega) hi1 _ C2 (mApp N B L tu bt hw).2 (L ++ bt) (tu + 1) (hc2) (((hf.tr fa1 (fun _ h => h)).tr fa2 (fun _ h => h))) hh2 m1 hl3 (mld ht2) ((hsq.tr hsb1.q).tr hs3.q) (by rw [hO, if_pos e8, hst]; rfl) (by omega)
      · skip
        refine G.go tv_X9_flushAll 1 42 [(0, .ref (gAd E (17))), (1, .int (nI qs.length)), (2, .int (nI i1))] [.ref (gAd E (17))] rfl ?_
        refine G.getf cls_X9 (17) 0 (by omega) (hc1.q17) (by decide) rfl (tbd tv_X9_flushAll rfl) w_353 ?_
        have hgt : 40 < L.length + bt.length := Classical.byContradiction fun zz => c38 (by rw [nI_add]; exact nI_le (b := 40) (by omega) (by omega))
        refine G.callV (13) [] [] (r_applyAll E _ N B gr C1 hz hc1 hw hh1 hok (by omega) L tu hl1 hld) cls_X6 (by omega) (hc1.q13) cw_X9_100 w_886 w_887 (Nat.le_of_ble_eq_true rfl) rfl (Nat.le_of_ble_eq_true rfl) (tbd tv_X9_flushAll rfl) (fun v3 f3 q3 => ?_) (fun X g q => by obtain ⟨rfl, q2, ⟨C9, q3, q4, q5, q5b⟩, q6⟩ := q; have e9 : O = _ := hO.trans ((if_neg (by rw [mStep_a1 hgt q2]; exact fun zz => Bool.noConfusion zz)).trans (mStep_a1 hgt q2)); exact hx g C9 q3 ((hf.tr fa1 (fun _ h => h)).tr q6 (fun _ h => h)) (by rw [e9]; exact q4) ((hsq.tr hsb1.q).tr q5.q) q5b (by rw [e9]))
        obtain ⟨rfl, ht3, ⟨C3, hc3, hh3, hs3⟩, fa3⟩ := q3
        refine G.eqs [] rfl ?_
        obtain ⟨hl2, hs2⟩ := hs3
        obtain ⟨a1, a2, a3, a4⟩ := aApl_all (N := N) (B := B) (by omega) (L := L) (tu := tu) hok hld
        have hst := mStep_a2 hgt ht3
        refine G.go tv_X9_flushAll 1 49 [(0, .ref (gAd E (17))), (1, .int (nI qs.length)), (2, .int (nI i1))] [.ref (gAd E (17))] rfl ?_
        refine G.getf cls_X9 (17) 0 (by omega) (hc3.q17) (by decide) rfl (tbd tv_X9_flushAll rfl) w_353 ?_
        refine G.go tv_X9_flushAll 1 53 [(0, .ref (gAd E (17))), (1, .int (nI qs.length)), (2, .int (nI i1))] [.ref (gAd E (17)), .ref (gAd E (13))] rfl ?_
        obtain ⟨m1, m2, m3⟩ := mApp_all (N := N) (B := B) (by omega) (L := (lApl L tu).1) (bt := bt) (tu := (lApl L tu).2) a1 (by omega)
        have mld := mApp_ld (N := N) (B := B) (by omega) (L := (lApl L tu).1) (bt := bt) (tu := (lApl L tu).2) a1 (by omega) a3 b43
        refine G.callV (13) [.ref (gAd E (17))] [] (r_append E _ N B gr C3 hz hc3 (aApl N B L tu hw).2 hh3 a1 (by omega) (lApl L tu).1 bt (lApl L tu).2 r1 hl2 (fun k hk => (a3 k hk).2.1) (hb1.sm hs2) (by omega)) cls_X6 (by omega) (hc3.q13) cw_X9_103 w_1300 w_1301 (Nat.le_of_ble_eq_true rfl) rfl (Nat.le_of_ble_eq_true rfl) (tbd tv_X9_flushAll rfl) (fun v4 f4 q4 => ?_) (fun X g q => by obtain ⟨rfl, q2, ⟨C9, q3, q4, q5, q5b⟩, q6⟩ := q; have e8 : (mStep N B bt (hw, L, tu)).1 = false := (by rw [hst]; exact q2); have e9 : O = _ := hO.trans ((if_neg (by rw [e8]; decide)).trans hst); exact hx g C9 q3 (((hf.tr fa1 (fun _ h => h)).tr fa3 (fun _ h => h)).tr q6 (fun _ h => h)) (by rw [e9]; exact q4) (((hsq.tr hsb1.q).tr hs2.q).tr q5.q) q5b (by rw [e9]; exact q2))
        obtain ⟨rfl, ht4, ⟨C4, hc4, hh4, hs4⟩, fa4⟩ := q4
        refine G.eqs [] rfl ?_
        obtain ⟨hl3, hs3⟩ := hs4
        refine G.go tv_X9_flushAll 1 7 [(0, .ref (gAd E (17))), (1, .int (nI qs.length)), (2, .int (nI i1))] [] rfl ?_
        have e8 : (mStep N B bt (hw, L, tu)).1 = true := by rw [hst]; exact ht4
        refine G.eql [(0, .ref (gAd E (17))), (1, .int (nI qs.length)), (2, .int (nI (i1)))] rfl ?_
        exact ih i1 (by omega) hi1 _ C4 (mApp N B (lApl L tu).1 (lApl L tu).2 bt (aApl N B L tu hw).2).2 ((lApl L tu).1 ++ bt) ((lApl L tu).2 + 1) (hc4) ((((hf.tr fa1 (fun _ h => h)).tr fa3 (fun _ h => h)).tr fa4 (fun _ h => h))) hh4 m1 hl3 (mld ht4) (((hsq.tr hsb1.q).tr hs2.q).tr hs3.q) (by rw [hO, if_pos e8, hst]; rfl) (by omega)
