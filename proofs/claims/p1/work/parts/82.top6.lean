theorem smV_0 {x y : Nat → Int32} {a b : Nat} : ∀ {k : Nat}, smV x y a b k = 0 → ∀ n, k ≤ n → smV x y a b n = 0 := by
  intro k h n hn
  induction n with
  | zero =>
    have e : k = 0 := by omega
    rw [← e]
    exact h
  | succ n ih =>
    by_cases e : k = n + 1
    · rw [← e]
      exact h
    · unfold smV
      rw [if_pos (ih (by omega))]
def tb_X2_same : List (Nat × Instr × Nat) := [(0, .iconst 0, 1), (1, .istore_n 2, 1), (2, .iload_n 2, 1), (3, .sipush 128, 3), (6, .if_icmp .ge 20, 3), (9, .aload_n 0, 1), (10, .iload_n 2, 1), (11, .baload, 1), (12, .aload_n 1, 1), (13, .iload_n 2, 1), (14, .baload, 1), (15, .if_icmp .eq 5, 3), (18, .iconst 0, 1), (19, .ireturn, 1), (20, .iinc 2 1, 3), (23, .goto (-21), 3), (26, .iconst 1, 1), (27, .ireturn, 1)]
theorem tv_X2_same : Tv cX2_same tb_X2_same := by
  unfold Tv
  decide +kernel
set_option maxRecDepth 100000 in
set_option maxHeartbeats 4000000 in
theorem csm_loop (E : gE) (f : Nat → va_E) (sz : Nat) (A : Nat → Prop) (Q : gQ) (ka kb : Nat) (x y : Nat → Int32) (hka : ka < gN E) (hkb : kb < gN E) (hea : f ka = oB (gDA E) 128 x) (heb : f kb = oB (gDA E) 128 y) (hq : Q.1 (some (.int (smV x y 0 0 128))) f) : ∀ (d j : Nat), j + d = 128 → smV x y 0 0 j = 1 → G E (1, yX2_same, 3, (some .boolean), sz, A) cX2_same (gO E (1, yX2_same, 3, (some .boolean), sz, A) Q) 2 [(0, .ref (gAd E (ka))), (1, .ref (gAd E (kb))), (2, .int (nI (j)))] [] f := by
  intro d
  induction d with
  | zero =>
    intro j e h1
    have e : j = 128 := e
    refine G.go tv_X2_same 2 6 [(0, .ref (gAd E (ka))), (1, .ref (gAd E (kb))), (2, .int (nI (j)))] [.int ((128 : Int32)), .int (nI (j))] rfl ?_
    refine G.cmp_ge 26 (tbd tv_X2_same rfl) (by decide) (fun c6 => ?_) (fun c6 => absurd (by rw [e]; exact (nI_le (Nat.le_refl _) (by omega) : nI 128 ≤ nI 128)) c6)
    refine G.go tv_X2_same 1 27 [(0, .ref (gAd E (ka))), (1, .ref (gAd E (kb))), (2, .int (nI (j)))] [.int ((1 : Int32))] rfl ?_
    exact G.iret rfl rfl (by rw [e] at h1; rw [h1] at hq; exact hq) (tbd tv_X2_same rfl)
  | succ d ih =>
    intro j e h1
    refine G.go tv_X2_same 2 6 [(0, .ref (gAd E (ka))), (1, .ref (gAd E (kb))), (2, .int (nI (j)))] [.int ((128 : Int32)), .int (nI (j))] rfl ?_
    refine G.cmp_ge 26 (tbd tv_X2_same rfl) (by decide) (fun c6 => absurd c6 ((nI_ge (by omega) (by omega) : ¬ nI 128 ≤ nI j))) (fun c6 => ?_)
    refine G.go tv_X2_same 2 11 [(0, .ref (gAd E (ka))), (1, .ref (gAd E (kb))), (2, .int (nI (j)))] [.int (nI (j)), .ref (gAd E (ka))] rfl ?_
    refine G.baldN (ka) (j) hka (hea) (by omega) (by decide) (tbd tv_X2_same rfl) ?_
    refine G.go tv_X2_same 2 14 [(0, .ref (gAd E (ka))), (1, .ref (gAd E (kb))), (2, .int (nI (j)))] [.int (nI (j)), .ref (gAd E (kb)), .int ((x) (j))] rfl ?_
    refine G.baldN (kb) (j) hkb (heb) (by omega) (by decide) (tbd tv_X2_same rfl) ?_
    refine G.cmp_eq 20 (tbd tv_X2_same rfl) (by decide) (fun c15 => ?_) (fun c15 => ?_)
    · skip
      refine G.go tv_X2_same 2 2 [(0, .ref (gAd E (ka))), (1, .ref (gAd E (kb))), (2, .int (nI (j) + (1 : Int32)))] [] rfl ?_
      refine G.eql [(0, .ref (gAd E (ka))), (1, .ref (gAd E (kb))), (2, .int (nI (j + 1)))] (by rw [nI_1]) ?_
      exact ih (j + 1) (by omega) (by unfold smV; rw [if_neg (by rw [h1]; decide), if_pos (by rw [Nat.zero_add]; exact c15)])
    · skip
      refine G.go tv_X2_same 1 19 [(0, .ref (gAd E (ka))), (1, .ref (gAd E (kb))), (2, .int (nI (j)))] [.int ((0 : Int32))] rfl ?_
      exact G.iret rfl rfl (by rw [smV_0 (k := j + 1) (by unfold smV; rw [if_neg (by rw [h1]; decide), if_neg (by rw [Nat.zero_add]; exact c15)]) 128 (by omega)] at hq; exact hq) (tbd tv_X2_same rfl)
set_option maxRecDepth 100000 in
set_option maxHeartbeats 4000000 in
theorem c_X2_same (E : gE) (f : Nat → va_E) (ka kb : Nat) (x y : Nat → Int32) (hka : ka < gN E) (hkb : kb < gN E) (hea : f ka = oB (gDA E) 128 x) (heb : f kb = oB (gDA E) 128 y) : Ct E 1 yX2_same cX2_same 3 (some .boolean) [.ref (gAd E (ka)), .ref (gAd E (kb))] f (fun r h => f = h ∧ r = some (.int (smV x y 0 0 128)), fun _ _ => False) := by
  refine Ct.of (by decide) (Nat.le_of_ble_eq_true rfl) (fun sz => ?_)
  refine G.eql [(0, .ref (gAd E (ka))), (1, .ref (gAd E (kb)))] rfl ?_
  refine G.go tv_X2_same 2 2 [(0, .ref (gAd E (ka))), (1, .ref (gAd E (kb))), (2, .int ((0 : Int32)))] [] rfl ?_
  refine csm_loop E f _ _ _ ka kb x y hka hkb hea heb ?_ 128 0 (by omega) rfl
  exact ⟨rfl, rfl⟩
def tb_X11_mount : List (Nat × Instr × Nat) := [(0, .aload_n 0, 1), (1, .invokevirtual 156, 3), (4, .aload_n 0, 1), (5, .aload_n 0, 1), (6, .getfield 87, 3), (9, .getfield 159, 3), (12, .invokevirtual 181, 3), (15, .aload_n 0, 1), (16, .getfield 87, 3), (19, .getfield 159, 3), (22, .aload_n 0, 1), (23, .getfield 47, 3), (26, .iconst 0, 1), (27, .invokevirtual 193, 3), (30, .invokestatic 197, 3), (33, .ifCond .ne 13, 3), (36, .new 201, 3), (39, .dup, 1), (40, .ldc 203, 2), (42, .invokespecial 205, 3), (45, .athrow, 1), (46, .aload_n 0, 1), (47, .getfield 87, 3), (50, .invokevirtual 206, 3), (53, .aload_n 0, 1), (54, .getfield 94, 3), (57, .invokevirtual 209, 3), (60, .aload_n 0, 1), (61, .getfield 65, 3), (64, .invokevirtual 210, 3), (67, .istore_n 1, 1), (68, .aload_n 0, 1), (69, .getfield 65, 3), (72, .invokevirtual 214, 3), (75, .aload_n 0, 1), (76, .iconst 1, 1), (77, .invokevirtual 217, 3), (80, .aload_n 0, 1), (81, .iconst 1, 1), (82, .putfield 140, 3), (85, .iload_n 1, 1), (86, .ireturn, 1)]
theorem tv_X11_mount : Tv cX11_mount tb_X11_mount := by
  unfold Tv
  decide +kernel
theorem w_825 : Cond.methodLink "LedgerFiles" 197 yX2_same ∈ TB := tp_3 199 (by decide +kernel) rfl
theorem w_827 : Cond.code yX2_same prog_4_method_6_code 3 (some .boolean) ∈ TB := tp_3 201 rfl rfl
theorem cw_X11_197 : Cw RX11 197 yX2_same cX2_same 3 (some .boolean) 2 := ⟨w_825, w_827, w_149, by decide +kernel, by decide +kernel, by decide⟩
theorem w_826 : Cond.static yX2_same ∈ TB := tp_3 200 (by decide +kernel) rfl
set_option maxRecDepth 100000 in
set_option maxHeartbeats 4000000 in
theorem c_X11_mountBad (E : gE) (f : Nat → va_E) (tp : Nat → Int32) (fd : Nat) (mo : Int32) (N B : Nat) (on : Int32) (s : DbS) (q0 : Nat) (tc : Nat) (gp : Int32) (sc : Nat → Int32) (hE1 : 350 + 2 * N + B ≤ gN E) (hN : N ≤ 1024) (hN2 : 128 ≤ N) (hm : MnV E f tp fd mo) (hfd : fd ≤ 1024) (hs : DBV E f N B on s) (ho : dbOk N B q0 s) (hsc : f 31 = oB (gDA E) 128 sc) (hscb : Byt sc) (hv : VwO E f tc gp) (hbad : mo = 0 → ¬ on = 0 → smV (hRow N sc) (dRead s.1 0) 0 0 128 = 0) : Ct E 7 yX11_mount cX11_mount 2 (some .int) [.ref (gAd E (0))] f (fun v g => False, fun X g => (X = "java/lang/IllegalStateException" ∧ f = g ∧ ¬ (mo = 0 ∧ ¬ on = 0)) ∨ (X = "java/lang/IllegalArgumentException" ∧ (mo = 0 ∧ ¬ on = 0) ∧ g 31 = oB (gDA E) 128 (hRow N sc) ∧ Fr ScK f g)) := by
  obtain ⟨m0, m1⟩ := id hm
  refine Ct.of (by decide) (Nat.le_of_ble_eq_true rfl) (fun sz => ?_)
  refine G.eql [(0, .ref (gAd E (0)))] rfl ?_
  refine G.go tv_X11_mount 1 1 [(0, .ref (gAd E (0)))] [.ref (gAd E (0))] rfl ?_
  refine G.callV (0) [] [] (c_X11_needUnmounted E f tp fd mo (by omega) hm hfd N s.1 on s.2.2.1 s.2.2.2.1 s.2.2.2.2 (by omega) hN hs.dk ho.d) cls_X11 (by omega) (m0) cw_X11_156 w_644 w_1 (Nat.le_of_ble_eq_true rfl) rfl (Nat.le_of_ble_eq_true rfl) (tbd tv_X11_mount rfl) (fun v1 f1 q1 => ?_) (fun X g h => Or.inl ⟨h.1, h.2.1, h.2.2⟩)
  obtain ⟨rfl, rfl, hm0, hon⟩ := q1
  refine G.eqs [] rfl ?_
  refine G.go tv_X11_mount 2 6 [(0, .ref (gAd E (0)))] [.ref (gAd E (0)), .ref (gAd E (0))] rfl ?_
  refine G.getf cls_X11 (0) 7 (by omega) (m0) (by decide) rfl (tbd tv_X11_mount rfl) w_570 ?_
  refine G.getf cls_X10 (25) 10 (by omega) (hv) (by decide) rfl (tbd tv_X11_mount rfl) w_421 ?_
  refine G.callV (0) [.ref (gAd E (31))] [] (c_X11_headRow E _ tp fd mo (by omega) N s.1 on s.2.2.1 s.2.2.2.1 s.2.2.2.2 hN m0 hs.dk.o sc hsc) cls_X11 (by omega) (m0) cw_X11_181 w_811 w_11 (Nat.le_of_ble_eq_true rfl) rfl (Nat.le_of_ble_eq_true rfl) (tbd tv_X11_mount rfl) (fun v2 f2 q2 => ?_) (fun _ _ h => h.elim)
  obtain ⟨rfl, hu2, hf2⟩ := q2
  refine G.eqs [] rfl ?_
  have hs9 : DBV E f2 N B on s := hs.of (fun k hk => hf2 k (ScK_LDB (Or.inl hk)))
  refine G.go tv_X11_mount 1 16 [(0, .ref (gAd E (0)))] [.ref (gAd E (0))] rfl ?_
  refine G.getf cls_X11 (0) 7 (by omega) ((hf2 0 (by show ¬ _ = _; decide)).trans m0) (by decide) rfl (tbd tv_X11_mount rfl) w_570 ?_
  refine G.getf cls_X10 (25) 10 (by omega) ((hf2 25 (by show ¬ _ = _; decide)).trans hv) (by decide) rfl (tbd tv_X11_mount rfl) w_421 ?_
  refine G.go tv_X11_mount 1 23 [(0, .ref (gAd E (0)))] [.ref (gAd E (0)), .ref (gAd E (31))] rfl ?_
  refine G.getf cls_X11 (0) 3 (by omega) ((hf2 0 (by show ¬ _ = _; decide)).trans m0) (by decide) rfl (tbd tv_X11_mount rfl) w_566 ?_
  refine G.go tv_X11_mount 1 27 [(0, .ref (gAd E (0)))] [.int ((0 : Int32)), .ref (gAd E (2)), .ref (gAd E (31))] rfl ?_
  refine G.eqs [.int (nI 0), .ref (gAd E (2)), .ref (gAd E (31))] rfl ?_
  refine G.callV (2) [.int (nI 0)] [.ref (gAd E (31))] (c_row E _ N s.1 on s.2.2.1 s.2.2.2.1 s.2.2.2.2 (by omega) hN hs9.dk ho.d 0 (by omega)) cls_X2 (by omega) (hs9.dk.o) cw_X11_193 w_801 w_802 (Nat.le_of_ble_eq_true rfl) rfl (Nat.le_of_ble_eq_true rfl) (tbd tv_X11_mount rfl) (fun v3 f3 q3 => ?_) (fun _ _ h => h.elim)
  obtain ⟨kk, rfl, rfl, hkk, hkd, hke⟩ := q3
  refine G.eqs [.ref (gAd E (kk)), .ref (gAd E (31))] rfl ?_
  refine G.callS [.ref (gAd E (31)), .ref (gAd E (kk))] [] (c_X2_same E _ 31 kk (hRow N sc) (dRead s.1 0) (by omega) hkk hu2 hke) cw_X11_197 w_826 (Nat.le_of_ble_eq_true rfl) rfl (Nat.le_of_ble_eq_true rfl) (tbd tv_X11_mount rfl) (fun v4 f4 q4 => ?_) (fun _ _ h => h.elim)
  obtain ⟨rfl, rfl⟩ := q4
  refine G.eqs [.int (smV (hRow N sc) (dRead s.1 0) 0 0 128)] rfl ?_
  refine G.eqs [.int (0 : Int32)] (by rw [hbad hm0 hon]) ?_
  refine G.if_ne 46 (tbd tv_X11_mount rfl) (by decide) (fun c33 => absurd (by decide) c33) (fun c33 => ?_)
  exact G.thr (cls := "java/lang/IllegalArgumentException") (text := "no file system") (names := ["java/lang/RuntimeException", "java/lang/Exception"]) (by decide +kernel) (by decide +kernel) w_828 w_168 (own := "LedgerFiles") rfl (by decide +kernel) (by decide +kernel) at_X11_205 (tbd tv_X11_mount rfl) (tbd tv_X11_mount rfl) (tbd tv_X11_mount rfl) (tbd tv_X11_mount rfl) (tbd tv_X11_mount rfl) (Nat.le_of_ble_eq_true rfl) (Nat.le_of_ble_eq_true rfl) (Or.inr ⟨rfl, ⟨hm0, hon⟩, hu2, hf2⟩)
