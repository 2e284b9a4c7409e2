theorem nar8 {x : Int32} (h : fits .byte (.int x) = true) : vp_nar .byte x = x := by
  rw [vp_nar_byte]
  have h2 : -128 ≤ x ∧ x ≤ 127 := by simpa [fits] using h
  have a : (-128 : Int) ≤ x.toInt := Int32.le_iff_toInt_le.mp h2.1
  have b : x.toInt ≤ 127 := Int32.le_iff_toInt_le.mp h2.2
  apply Int32.toInt_inj.mp
  rw [Int8.toInt_toInt32, Int32.toInt_toInt8]
  exact Int.bmod_eq_of_le (by omega) (by omega)
theorem cpy_0 {x y : Nat → Int32} {a b : Nat} : va_cpy x y a b 0 = y := by
  funext i
  exact pk_cpy_out (by omega)
theorem cpy_s {x y : Nat → Int32} {a b j : Nat} : upd (va_cpy x y a b j) (b + j) (x (a + j)) = va_cpy x y a b (j + 1) := by
  funext i
  by_cases e : i = b + j
  · rw [e, pk_us, pk_cpy_in (by omega) (by omega)]
    congr 1
    omega
  · rw [pk_un e]
    by_cases q : b ≤ i ∧ i < b + j
    · rw [pk_cpy_in q.1 q.2, pk_cpy_in q.1 (by omega)]
    · rw [pk_cpy_out (by omega), pk_cpy_out (by omega)]
def tb_X12_move : List (Nat × Instr × Nat) := [(0, .iconst 0, 1), (1, .istore 4, 2), (3, .iload 4, 2), (5, .sipush 128, 3), (8, .if_icmp .ge 21, 3), (11, .aload_n 2, 1), (12, .iload_n 3, 1), (13, .iload 4, 2), (15, .iadd, 1), (16, .aload_n 0, 1), (17, .iload_n 1, 1), (18, .iload 4, 2), (20, .iadd, 1), (21, .baload, 1), (22, .bastore, 1), (23, .iinc 4 1, 3), (26, .goto (-23), 3), (29, .return_, 1)]
theorem tv_X12_move : Tv cX12_move tb_X12_move := by
  unfold Tv
  decide +kernel
set_option maxRecDepth 100000 in
set_option maxHeartbeats 4000000 in
theorem mv_loop (E : gE) (f : Nat → va_E) (sz : Nat) (A : Nat → Prop) (Q : gQ) (kf nf kt nt : Nat) (gf gt : Nat → Int32) (a b : Nat) (hkf : kf < gN E) (hkt : kt < gN E) (hne : kf ≠ kt) (hef : f kf = oB (gDA E) nf gf) (hnf : nf < 2 ^ 31) (hnt : nt < 2 ^ 31) (ha : a + 128 ≤ nf) (hb : b + 128 ≤ nt) (hby : Byt gf) (hq : Q.1 none (va_up f kt (oB (gDA E) nt (va_cpy gf gt a b (128))))) : ∀ (d j : Nat), j + d = 128 → G E (1, yX12_move, 5, none, sz, A) cX12_move (gO E (1, yX12_move, 5, none, sz, A) Q) 3 [(0, .ref (gAd E (kf))), (1, .int (nI a)), (2, .ref (gAd E (kt))), (3, .int (nI b)), (4, .int (nI (j)))] [] (va_up f kt (oB (gDA E) nt (va_cpy gf gt a b (j)))) := by
  intro d
  induction d with
  | zero =>
    intro j e
    have e : j = 128 := e
    have hq : Q.1 none (va_up f kt (oB (gDA E) nt (va_cpy gf gt a b (j)))) := by rw [e]; exact hq
    refine G.go tv_X12_move 2 8 [(0, .ref (gAd E (kf))), (1, .int (nI a)), (2, .ref (gAd E (kt))), (3, .int (nI b)), (4, .int (nI (j)))] [.int ((128 : Int32)), .int (nI (j))] rfl ?_
    refine G.cmp_ge 29 (tbd tv_X12_move rfl) (by decide) (fun c8 => ?_) (fun c8 => absurd (by rw [e]; exact (nI_le (Nat.le_refl _) (by omega) : nI 128 ≤ nI 128)) c8)
    exact G.vret rfl hq (tbd tv_X12_move rfl)
  | succ d ih =>
    intro j e
    refine G.go tv_X12_move 2 8 [(0, .ref (gAd E (kf))), (1, .int (nI a)), (2, .ref (gAd E (kt))), (3, .int (nI b)), (4, .int (nI (j)))] [.int ((128 : Int32)), .int (nI (j))] rfl ?_
    refine G.cmp_ge 29 (tbd tv_X12_move rfl) (by decide) (fun c8 => absurd c8 ((nI_ge (by omega) (by omega) : ¬ nI 128 ≤ nI j))) (fun c8 => ?_)
    refine G.go tv_X12_move 8 21 [(0, .ref (gAd E (kf))), (1, .int (nI a)), (2, .ref (gAd E (kt))), (3, .int (nI b)), (4, .int (nI (j)))] [.int ((nI a) + (nI (j))), .ref (gAd E (kf)), .int ((nI b) + (nI (j))), .ref (gAd E (kt))] rfl ?_
    refine G.eqs [.int (nI (a + j)), .ref (gAd E (kf)), .int ((nI b) + (nI (j))), .ref (gAd E (kt))] (by rw [nI_add]) ?_
    refine G.baldN (kf) (a + j) hkf (up_n hne hef) (by omega) (hnf) (tbd tv_X12_move rfl) ?_
    refine G.eqs [.int ((gf) (a + j)), .int (nI (b + j)), .ref (gAd E (kt))] (by rw [nI_add]) ?_
    refine G.bastN (kt) (b + j) hkt (up_e) (by omega) (hnt) (tbd tv_X12_move rfl) ?_
    refine G.go tv_X12_move 2 3 [(0, .ref (gAd E (kf))), (1, .int (nI a)), (2, .ref (gAd E (kt))), (3, .int (nI b)), (4, .int (nI (j) + (1 : Int32)))] [] rfl ?_
    refine G.eql [(0, .ref (gAd E (kf))), (1, .int (nI a)), (2, .ref (gAd E (kt))), (3, .int (nI b)), (4, .int (nI (j + 1)))] (by rw [nI_1]) ?_
    refine G.eqf (va_up f kt (oB (gDA E) nt (va_cpy gf gt a b (j + 1)))) (by rw [bx_uu, nar8 (hby _), cpy_s]) ?_
    exact ih (j + 1) (by omega)
set_option maxRecDepth 100000 in
set_option maxHeartbeats 4000000 in
theorem c_X12_move (E : gE) (f : Nat → va_E) (kf nf kt nt : Nat) (gf gt : Nat → Int32) (a b : Nat) (hkf : kf < gN E) (hkt : kt < gN E) (hne : kf ≠ kt) (hef : f kf = oB (gDA E) nf gf) (hnf : nf < 2 ^ 31) (hnt : nt < 2 ^ 31) (ha : a + 128 ≤ nf) (hb : b + 128 ≤ nt) (hby : Byt gf) (het : f kt = oB (gDA E) nt gt) : Ct E 1 yX12_move cX12_move 5 none [.ref (gAd E (kf)), .int (nI a), .ref (gAd E (kt)), .int (nI b)] f (fun v h => v = none ∧ (va_up f kt (oB (gDA E) nt (va_cpy gf gt a b (128)))) = h, fun _ _ => False) := by
  refine Ct.of (by decide) (Nat.le_of_ble_eq_true rfl) (fun sz => ?_)
  refine G.eql [(0, .ref (gAd E (kf))), (1, .int (nI a)), (2, .ref (gAd E (kt))), (3, .int (nI b))] rfl ?_
  refine G.go tv_X12_move 2 3 [(0, .ref (gAd E (kf))), (1, .int (nI a)), (2, .ref (gAd E (kt))), (3, .int (nI b)), (4, .int ((0 : Int32)))] [] rfl ?_
  refine G.eqf (va_up f kt (oB (gDA E) nt (va_cpy gf gt a b (0)))) (by rw [cpy_0]; exact up_id het) ?_
  refine mv_loop E f _ _ _ kf nf kt nt gf gt a b hkf hkt hne hef hnf hnt ha hb hby ?_ 128 0 (by omega)
  exact ⟨rfl, rfl⟩
set_option maxRecDepth 100000 in
set_option maxHeartbeats 4000000 in
theorem mvD_loop (E : gE) (f : Nat → va_E) (sz : Nat) (A : Nat → Prop) (Q : gQ) (kt nt : Nat) (gt : Nat → Int32) (a b : Nat) (hkt : kt < gN E) (hnt : nt < 2 ^ 31) (ha : a + 128 ≤ nt) (hb : b + 128 ≤ a) (hby : Byt gt) (hq : Q.1 none (va_up f kt (oB (gDA E) nt (va_cpy gt gt a b (128))))) : ∀ (d j : Nat), j + d = 128 → G E (1, yX12_move, 5, none, sz, A) cX12_move (gO E (1, yX12_move, 5, none, sz, A) Q) 3 [(0, .ref (gAd E (kt))), (1, .int (nI a)), (2, .ref (gAd E (kt))), (3, .int (nI b)), (4, .int (nI (j)))] [] (va_up f kt (oB (gDA E) nt (va_cpy gt gt a b (j)))) := by
  intro d
  induction d with
  | zero =>
    intro j e
    have e : j = 128 := e
    have hq : Q.1 none (va_up f kt (oB (gDA E) nt (va_cpy gt gt a b (j)))) := by rw [e]; exact hq
    refine G.go tv_X12_move 2 8 [(0, .ref (gAd E (kt))), (1, .int (nI a)), (2, .ref (gAd E (kt))), (3, .int (nI b)), (4, .int (nI (j)))] [.int ((128 : Int32)), .int (nI (j))] rfl ?_
    refine G.cmp_ge 29 (tbd tv_X12_move rfl) (by decide) (fun c8 => ?_) (fun c8 => absurd (by rw [e]; exact (nI_le (Nat.le_refl _) (by omega) : nI 128 ≤ nI 128)) c8)
    exact G.vret rfl hq (tbd tv_X12_move rfl)
  | succ d ih =>
    intro j e
    refine G.go tv_X12_move 2 8 [(0, .ref (gAd E (kt))), (1, .int (nI a)), (2, .ref (gAd E (kt))), (3, .int (nI b)), (4, .int (nI (j)))] [.int ((128 : Int32)), .int (nI (j))] rfl ?_
    refine G.cmp_ge 29 (tbd tv_X12_move rfl) (by decide) (fun c8 => absurd c8 ((nI_ge (by omega) (by omega) : ¬ nI 128 ≤ nI j))) (fun c8 => ?_)
    refine G.go tv_X12_move 8 21 [(0, .ref (gAd E (kt))), (1, .int (nI a)), (2, .ref (gAd E (kt))), (3, .int (nI b)), (4, .int (nI (j)))] [.int ((nI a) + (nI (j))), .ref (gAd E (kt)), .int ((nI b) + (nI (j))), .ref (gAd E (kt))] rfl ?_
    refine G.eqs [.int (nI (a + j)), .ref (gAd E (kt)), .int ((nI b) + (nI (j))), .ref (gAd E (kt))] (by rw [nI_add]) ?_
    refine G.baldN (kt) (a + j) hkt (up_e) (by omega) (hnt) (tbd tv_X12_move rfl) ?_
    refine G.eqs [.int (gt (a + j)), .int ((nI b) + (nI (j))), .ref (gAd E (kt))] (by rw [pk_cpy_out (by omega)]) ?_
    refine G.eqs [.int (gt (a + j)), .int (nI (b + j)), .ref (gAd E (kt))] (by rw [nI_add]) ?_
    refine G.bastN (kt) (b + j) hkt (up_e) (by omega) (hnt) (tbd tv_X12_move rfl) ?_
    refine G.go tv_X12_move 2 3 [(0, .ref (gAd E (kt))), (1, .int (nI a)), (2, .ref (gAd E (kt))), (3, .int (nI b)), (4, .int (nI (j) + (1 : Int32)))] [] rfl ?_
    refine G.eql [(0, .ref (gAd E (kt))), (1, .int (nI a)), (2, .ref (gAd E (kt))), (3, .int (nI b)), (4, .int (nI (j + 1)))] (by rw [nI_1]) ?_
    refine G.eqf (va_up f kt (oB (gDA E) nt (va_cpy gt gt a b (j + 1)))) (by rw [bx_uu, nar8 (hby _), cpy_s]) ?_
    exact ih (j + 1) (by omega)
set_option maxRecDepth 100000 in
set_option maxHeartbeats 4000000 in
theorem c_X12_moveD (E : gE) (f : Nat → va_E) (kt nt : Nat) (gt : Nat → Int32) (a b : Nat) (hkt : kt < gN E) (hnt : nt < 2 ^ 31) (ha : a + 128 ≤ nt) (hb : b + 128 ≤ a) (hby : Byt gt) (het : f kt = oB (gDA E) nt gt) : Ct E 1 yX12_move cX12_move 5 none [.ref (gAd E (kt)), .int (nI a), .ref (gAd E (kt)), .int (nI b)] f (fun v h => v = none ∧ (va_up f kt (oB (gDA E) nt (va_cpy gt gt a b (128)))) = h, fun _ _ => False) := by
  refine Ct.of (by decide) (Nat.le_of_ble_eq_true rfl) (fun sz => ?_)
  refine G.eql [(0, .ref (gAd E (kt))), (1, .int (nI a)), (2, .ref (gAd E (kt))), (3, .int (nI b))] rfl ?_
  refine G.go tv_X12_move 2 3 [(0, .ref (gAd E (kt))), (1, .int (nI a)), (2, .ref (gAd E (kt))), (3, .int (nI b)), (4, .int ((0 : Int32)))] [] rfl ?_
  refine G.eqf (va_up f kt (oB (gDA E) nt (va_cpy gt gt a b (0)))) (by rw [cpy_0]; exact up_id het) ?_
  refine mvD_loop E f _ _ _ kt nt gt a b hkt hnt ha hb hby ?_ 128 0 (by omega)
  exact ⟨rfl, rfl⟩
theorem RfV.ar {E : gE} {f g : Nat → va_E} {R2 : RfT} {k : Nat} {e : va_E} (h : RfV E (va_up f k e) R2) (q : va_up f k e = g) : RfV E g R2 := q ▸ h
theorem Fr.ar {f g : Nat → va_E} {k : Nat} {e : va_E} (hk : RfK k) (q : va_up f k e = g) : Fr RfK f g := q ▸ Fr.up Fr.rf hk
def rNk (R : RfT) : RfT := setS (setA (setA (setA R 35 (flt (rA R 35) 0 1024 0)) 52 (flt (rA R 52) 0 65 0)) 53 (flt (rA R 53) 0 32 0)) 34 0
def tb_X12_nothingKnown : List (Nat × Instr × Nat) := [(0, .iconst 0, 1), (1, .istore_n 1, 1), (2, .iload_n 1, 1), (3, .sipush 1024, 3), (6, .if_icmp .ge 16, 3), (9, .aload_n 0, 1), (10, .getfield 68, 3), (13, .iload_n 1, 1), (14, .iconst 0, 1), (15, .bastore, 1), (16, .iinc 1 1, 3), (19, .goto (-17), 3), (22, .iconst 0, 1), (23, .istore_n 1, 1), (24, .iload_n 1, 1), (25, .bipush 65, 2), (27, .if_icmp .ge 16, 3), (30, .aload_n 0, 1), (31, .getfield 110, 3), (34, .iload_n 1, 1), (35, .iconst 0, 1), (36, .iastore, 1), (37, .iinc 1 1, 3), (40, .goto (-16), 3), (43, .iconst 0, 1), (44, .istore_n 1, 1), (45, .iload_n 1, 1), (46, .bipush 32, 2), (48, .if_icmp .ge 16, 3), (51, .aload_n 0, 1), (52, .getfield 113, 3), (55, .iload_n 1, 1), (56, .iconst 0, 1), (57, .iastore, 1), (58, .iinc 1 1, 3), (61, .goto (-16), 3), (64, .aload_n 0, 1), (65, .iconst 0, 1), (66, .putfield 174, 3), (69, .return_, 1)]
theorem tv_X12_nothingKnown : Tv cX12_nothingKnown tb_X12_nothingKnown := by
  unfold Tv
  decide +kernel
theorem w_2100 : Cond.fieldLink "LedgerFilesModel" 68 "LedgerFilesModel" "rests" "[B" ∈ TB := tp_9 34 (by decide +kernel) rfl
set_option maxRecDepth 100000 in
set_option maxHeartbeats 4000000 in
theorem nk1 (E : gE) (f0 : Nat → va_E) (sz : Nat) (A : Nat → Prop) (Q : gQ) (hE : 94 ≤ gN E) (R : RfT) (kq : ∀ g, RfV E g (setA R 35 (flt (rA R 35) 0 (1024) 0)) → Fr RfK f0 g → G E (1, yX12_nothingKnown, 2, none, sz, A) cX12_nothingKnown (gO E (1, yX12_nothingKnown, 2, none, sz, A) Q) 22 [(0, .ref (gAd E (56))), (1, .int (nI (1024)))] [] g) : ∀ (d j : Nat), j + d = 1024 → ∀ f, RfV E f (setA R 35 (flt (rA R 35) 0 (j) 0)) → Fr RfK f0 f → G E (1, yX12_nothingKnown, 2, none, sz, A) cX12_nothingKnown (gO E (1, yX12_nothingKnown, 2, none, sz, A) Q) 2 [(0, .ref (gAd E (56))), (1, .int (nI (j)))] [] f := by
  intro d
  induction d with
  | zero =>
    intro j e f r hf
    have e : j = 1024 := e
    refine G.go tv_X12_nothingKnown 2 6 [(0, .ref (gAd E (56))), (1, .int (nI (j)))] [.int ((1024 : Int32)), .int (nI (j))] rfl ?_
    refine G.cmp_ge 22 (tbd tv_X12_nothingKnown rfl) (by decide) (fun c6 => ?_) (fun c6 => absurd (by rw [e]; exact (nI_le (Nat.le_refl _) (by omega) : nI 1024 ≤ nI 1024)) c6)
    refine G.eql [(0, .ref (gAd E (56))), (1, .int (nI (1024)))] (by rw [e]) ?_
    exact kq _ (e ▸ r) (hf)
  | succ d ih =>
    intro j e f r hf
    refine G.go tv_X12_nothingKnown 2 6 [(0, .ref (gAd E (56))), (1, .int (nI (j)))] [.int ((1024 : Int32)), .int (nI (j))] rfl ?_
    refine G.cmp_ge 22 (tbd tv_X12_nothingKnown rfl) (by decide) (fun c6 => absurd c6 ((nI_ge (by omega) (by omega) : ¬ nI 1024 ≤ nI j))) (fun c6 => ?_)
    refine G.go tv_X12_nothingKnown 1 10 [(0, .ref (gAd E (56))), (1, .int (nI (j)))] [.ref (gAd E (56))] rfl ?_
    refine G.rg r hE 35 (.ref (gAd E (72))) (by decide) rfl (tbd tv_X12_nothingKnown rfl) w_2100 ?_
    refine G.go tv_X12_nothingKnown 2 15 [(0, .ref (gAd E (56))), (1, .int (nI (j)))] [.int ((0 : Int32)), .int (nI (j)), .ref (gAd E (72))] rfl ?_
    refine G.raB (j) hE ⟨by decide, by decide⟩ r.a35 (r.p35 _) (by omega) (by decide) (tbd tv_X12_nothingKnown rfl) (fun u1 r1 h1 => ?_)
    refine G.go tv_X12_nothingKnown 2 2 [(0, .ref (gAd E (56))), (1, .int (nI (j) + (1 : Int32)))] [] rfl ?_
    refine G.eql [(0, .ref (gAd E (56))), (1, .int (nI (j + 1)))] (by rw [nI_1]) ?_
    exact ih (j + 1) (by omega) _ (by have q : RfV E u1 (setA (setA R 35 (flt (rA R 35) 0 (j) 0)) 35 (upd (flt (rA R 35) 0 (j) 0) (j) (vp_nar .byte ((0 : Int32))))) := r1; rw [setA_A, show vp_nar .byte (0 : Int32) = 0 from rfl, flt_s (Nat.zero_le j)] at q; exact q) ((hf).tr h1 (fun _ h => h))
theorem w_2117 : Cond.fieldLink "LedgerFilesModel" 110 "LedgerFilesModel" "holds" "[I" ∈ TB := tp_9 51 (by decide +kernel) rfl
set_option maxRecDepth 100000 in
set_option maxHeartbeats 4000000 in
theorem nk2 (E : gE) (f0 : Nat → va_E) (sz : Nat) (A : Nat → Prop) (Q : gQ) (hE : 94 ≤ gN E) (R : RfT) (kq : ∀ g, RfV E g (setA (setA R 35 (flt (rA R 35) 0 1024 0)) 52 (flt (rA R 52) 0 (65) 0)) → Fr RfK f0 g → G E (1, yX12_nothingKnown, 2, none, sz, A) cX12_nothingKnown (gO E (1, yX12_nothingKnown, 2, none, sz, A) Q) 43 [(0, .ref (gAd E (56))), (1, .int (nI (65)))] [] g) : ∀ (d j : Nat), j + d = 65 → ∀ f, RfV E f (setA (setA R 35 (flt (rA R 35) 0 1024 0)) 52 (flt (rA R 52) 0 (j) 0)) → Fr RfK f0 f → G E (1, yX12_nothingKnown, 2, none, sz, A) cX12_nothingKnown (gO E (1, yX12_nothingKnown, 2, none, sz, A) Q) 24 [(0, .ref (gAd E (56))), (1, .int (nI (j)))] [] f := by
  intro d
  induction d with
  | zero =>
    intro j e f r hf
    have e : j = 65 := e
    refine G.go tv_X12_nothingKnown 2 27 [(0, .ref (gAd E (56))), (1, .int (nI (j)))] [.int ((65 : Int32)), .int (nI (j))] rfl ?_
    refine G.cmp_ge 43 (tbd tv_X12_nothingKnown rfl) (by decide) (fun c27 => ?_) (fun c27 => absurd (by rw [e]; exact (nI_le (Nat.le_refl _) (by omega) : nI 65 ≤ nI 65)) c27)
    refine G.eql [(0, .ref (gAd E (56))), (1, .int (nI (65)))] (by rw [e]) ?_
    exact kq _ (e ▸ r) (hf)
  | succ d ih =>
    intro j e f r hf
    refine G.go tv_X12_nothingKnown 2 27 [(0, .ref (gAd E (56))), (1, .int (nI (j)))] [.int ((65 : Int32)), .int (nI (j))] rfl ?_
    refine G.cmp_ge 43 (tbd tv_X12_nothingKnown rfl) (by decide) (fun c27 => absurd c27 ((nI_ge (by omega) (by omega) : ¬ nI 65 ≤ nI j))) (fun c27 => ?_)
    refine G.go tv_X12_nothingKnown 1 31 [(0, .ref (gAd E (56))), (1, .int (nI (j)))] [.ref (gAd E (56))] rfl ?_
    refine G.rg r hE 52 (.ref (gAd E (86))) (by decide) rfl (tbd tv_X12_nothingKnown rfl) w_2117 ?_
    refine G.go tv_X12_nothingKnown 2 36 [(0, .ref (gAd E (56))), (1, .int (nI (j)))] [.int ((0 : Int32)), .int (nI (j)), .ref (gAd E (86))] rfl ?_
    refine G.raI (j) hE ⟨by decide, by decide⟩ r.a52 (r.p52 _) (by omega) (by decide) (tbd tv_X12_nothingKnown rfl) (fun u2 r2 h2 => ?_)
    refine G.go tv_X12_nothingKnown 2 24 [(0, .ref (gAd E (56))), (1, .int (nI (j) + (1 : Int32)))] [] rfl ?_
    refine G.eql [(0, .ref (gAd E (56))), (1, .int (nI (j + 1)))] (by rw [nI_1]) ?_
    exact ih (j + 1) (by omega) _ (by have q : RfV E u2 (setA (setA (setA R 35 (flt (rA R 35) 0 1024 0)) 52 (flt (rA R 52) 0 (j) 0)) 52 (upd (flt (rA R 52) 0 (j) 0) (j) ((0 : Int32)))) := r2; rw [setA_A, flt_s (Nat.zero_le j)] at q; exact q) ((hf).tr h2 (fun _ h => h))
theorem w_2118 : Cond.fieldLink "LedgerFilesModel" 113 "LedgerFilesModel" "handled" "[I" ∈ TB := tp_9 52 (by decide +kernel) rfl
set_option maxRecDepth 100000 in
set_option maxHeartbeats 4000000 in
theorem nk3 (E : gE) (f0 : Nat → va_E) (sz : Nat) (A : Nat → Prop) (Q : gQ) (hE : 94 ≤ gN E) (R : RfT) (kq : ∀ g, RfV E g (setA (setA (setA R 35 (flt (rA R 35) 0 1024 0)) 52 (flt (rA R 52) 0 65 0)) 53 (flt (rA R 53) 0 (32) 0)) → Fr RfK f0 g → G E (1, yX12_nothingKnown, 2, none, sz, A) cX12_nothingKnown (gO E (1, yX12_nothingKnown, 2, none, sz, A) Q) 64 [(0, .ref (gAd E (56))), (1, .int (nI (32)))] [] g) : ∀ (d j : Nat), j + d = 32 → ∀ f, RfV E f (setA (setA (setA R 35 (flt (rA R 35) 0 1024 0)) 52 (flt (rA R 52) 0 65 0)) 53 (flt (rA R 53) 0 (j) 0)) → Fr RfK f0 f → G E (1, yX12_nothingKnown, 2, none, sz, A) cX12_nothingKnown (gO E (1, yX12_nothingKnown, 2, none, sz, A) Q) 45 [(0, .ref (gAd E (56))), (1, .int (nI (j)))] [] f := by
  intro d
  induction d with
  | zero =>
    intro j e f r hf
    have e : j = 32 := e
    refine G.go tv_X12_nothingKnown 2 48 [(0, .ref (gAd E (56))), (1, .int (nI (j)))] [.int ((32 : Int32)), .int (nI (j))] rfl ?_
    refine G.cmp_ge 64 (tbd tv_X12_nothingKnown rfl) (by decide) (fun c48 => ?_) (fun c48 => absurd (by rw [e]; exact (nI_le (Nat.le_refl _) (by omega) : nI 32 ≤ nI 32)) c48)
    refine G.eql [(0, .ref (gAd E (56))), (1, .int (nI (32)))] (by rw [e]) ?_
    exact kq _ (e ▸ r) (hf)
  | succ d ih =>
    intro j e f r hf
    refine G.go tv_X12_nothingKnown 2 48 [(0, .ref (gAd E (56))), (1, .int (nI (j)))] [.int ((32 : Int32)), .int (nI (j))] rfl ?_
    refine G.cmp_ge 64 (tbd tv_X12_nothingKnown rfl) (by decide) (fun c48 => absurd c48 ((nI_ge (by omega) (by omega) : ¬ nI 32 ≤ nI j))) (fun c48 => ?_)
    refine G.go tv_X12_nothingKnown 1 52 [(0, .ref (gAd E (56))), (1, .int (nI (j)))] [.ref (gAd E (56))] rfl ?_
    refine G.rg r hE 53 (.ref (gAd E (87))) (by decide) rfl (tbd tv_X12_nothingKnown rfl) w_2118 ?_
    refine G.go tv_X12_nothingKnown 2 57 [(0, .ref (gAd E (56))), (1, .int (nI (j)))] [.int ((0 : Int32)), .int (nI (j)), .ref (gAd E (87))] rfl ?_
    refine G.raI (j) hE ⟨by decide, by decide⟩ r.a53 (r.p53 _) (by omega) (by decide) (tbd tv_X12_nothingKnown rfl) (fun u3 r3 h3 => ?_)
    refine G.go tv_X12_nothingKnown 2 45 [(0, .ref (gAd E (56))), (1, .int (nI (j) + (1 : Int32)))] [] rfl ?_
    refine G.eql [(0, .ref (gAd E (56))), (1, .int (nI (j + 1)))] (by rw [nI_1]) ?_
    exact ih (j + 1) (by omega) _ (by have q : RfV E u3 (setA (setA (setA (setA R 35 (flt (rA R 35) 0 1024 0)) 52 (flt (rA R 52) 0 65 0)) 53 (flt (rA R 53) 0 (j) 0)) 53 (upd (flt (rA R 53) 0 (j) 0) (j) ((0 : Int32)))) := r3; rw [setA_A, flt_s (Nat.zero_le j)] at q; exact q) ((hf).tr h3 (fun _ h => h))
set_option maxRecDepth 100000 in
set_option maxHeartbeats 4000000 in
theorem c_X12_nothingKnown (E : gE) (f : Nat → va_E) (R : RfT) (hE : 94 ≤ gN E) (r : RfV E f R) : Ct E 1 yX12_nothingKnown cX12_nothingKnown 2 none [.ref (gAd E (56))] f (fun v g => v = none ∧ RfV E g (rNk R) ∧ Fr RfK f g, fun _ _ => False) := by
  refine Ct.of (by decide) (Nat.le_of_ble_eq_true rfl) (fun sz => ?_)
  refine G.eql [(0, .ref (gAd E (56)))] rfl ?_
  refine G.go tv_X12_nothingKnown 2 2 [(0, .ref (gAd E (56))), (1, .int ((0 : Int32)))] [] rfl ?_
  refine nk1 E f _ _ _ hE R ?_ 1024 0 (by omega) f (by rw [flt_0, setA_id]; exact r) Fr.rf
  intro u0 r0 h0
  refine G.go tv_X12_nothingKnown 2 24 [(0, .ref (gAd E (56))), (1, .int ((0 : Int32)))] [] rfl ?_
  refine nk2 E f _ _ _ hE R ?_ 65 0 (by omega) u0 (by rw [flt_0]; exact RfV.cast r0 (setA_id (R := setA R 35 (flt (rA R 35) 0 1024 0)) (j := 52)).symm) h0
  intro u1 r1 h1
  refine G.go tv_X12_nothingKnown 2 45 [(0, .ref (gAd E (56))), (1, .int ((0 : Int32)))] [] rfl ?_
  refine nk3 E f _ _ _ hE R ?_ 32 0 (by omega) u1 (by rw [flt_0]; exact RfV.cast r1 (setA_id (R := setA (setA R 35 (flt (rA R 35) 0 1024 0)) 52 (flt (rA R 52) 0 65 0)) (j := 53)).symm) h1
  intro u2 r2 h2
  refine G.go tv_X12_nothingKnown 2 66 [(0, .ref (gAd E (56))), (1, .int (nI (32)))] [.int ((0 : Int32)), .ref (gAd E (56))] rfl ?_
  refine G.rp r2 hE 34 (setS (setA (setA (setA R 35 (flt (rA R 35) 0 1024 0)) 52 (flt (rA R 52) 0 65 0)) 53 (flt (rA R 53) 0 (32) 0)) 34 ((0 : Int32))) rfl rfl (by decide) rfl rfl rfl (tbd tv_X12_nothingKnown rfl) w_2099 (fun u4 r4 h4 => ?_)
  exact G.vret rfl (⟨rfl, r4, (h2).tr h4 (fun _ h => h)⟩) (tbd tv_X12_nothingKnown rfl)
def rFl0 (R : RfT) : RfT := setS (setS (setS (setS (setS (setS R 11 0) 12 (-1)) 21 0) 18 0) 25 0) 29 0
def rFl1 (R : RfT) (n : Nat) : RfT := setA (setA (setA (rNoW (rFl0 R) n) 37 (flt (rA R 37) 0 1024 (-1))) 38 (flt (rA R 38) 0 1024 (-1))) 39 (flt (rA R 39) 0 1024 (-1))
def rFl (R : RfT) (n : Nat) : RfT := rNk (rFl1 R n)
def tb_X12_fails : List (Nat × Instr × Nat) := [(0, .aload_n 0, 1), (1, .iconst 0, 1), (2, .putfield 25, 3), (5, .aload_n 0, 1), (6, .iconst (-1), 1), (7, .putfield 29, 3), (10, .aload_n 0, 1), (11, .iconst 0, 1), (12, .putfield 156, 3), (15, .aload_n 0, 1), (16, .iconst 0, 1), (17, .putfield 159, 3), (20, .aload_n 0, 1), (21, .iconst 0, 1), (22, .putfield 162, 3), (25, .aload_n 0, 1), (26, .iconst 0, 1), (27, .putfield 165, 3), (30, .aload_n 0, 1), (31, .invokevirtual 168, 3), (34, .aload_n 0, 1), (35, .getfield 74, 3), (38, .invokestatic 140, 3), (41, .aload_n 0, 1), (42, .getfield 77, 3), (45, .invokestatic 140, 3), (48, .aload_n 0, 1), (49, .getfield 80, 3), (52, .invokestatic 140, 3), (55, .aload_n 0, 1), (56, .invokevirtual 171, 3), (59, .return_, 1)]
theorem tv_X12_fails : Tv cX12_fails tb_X12_fails := by
  unfold Tv
  decide +kernel
theorem w_2077 : Cond.fieldLink "LedgerFilesModel" 29 "LedgerFilesModel" "left" "I" ∈ TB := tp_9 11 (by decide +kernel) rfl
theorem w_2083 : Cond.fieldLink "LedgerFilesModel" 159 "LedgerFilesModel" "held" "I" ∈ TB := tp_9 17 (by decide +kernel) rfl
theorem w_2090 : Cond.fieldLink "LedgerFilesModel" 162 "LedgerFilesModel" "logged" "I" ∈ TB := tp_9 24 (by decide +kernel) rfl
theorem w_2094 : Cond.fieldLink "LedgerFilesModel" 165 "LedgerFilesModel" "changes" "I" ∈ TB := tp_9 28 (by decide +kernel) rfl
theorem w_2102 : Cond.fieldLink "LedgerFilesModel" 74 "LedgerFilesModel" "queueAt" "[I" ∈ TB := tp_9 36 (by decide +kernel) rfl
theorem w_2062 : Cond.methodLink "LedgerFilesModel" 140 yX12_nowhere ∈ TB := tp_8 236 (by decide +kernel) rfl
theorem w_2064 : Cond.code yX12_nowhere prog_14_method_2_code 2 none ∈ TB := tp_8 238 rfl rfl
theorem cw_X12_140 : Cw RX12 140 yX12_nowhere cX12_nowhere 2 none 1 := ⟨w_2062, w_2064, w_161, by decide +kernel, by decide +kernel, by decide⟩
theorem w_2063 : Cond.static yX12_nowhere ∈ TB := tp_8 237 (by decide +kernel) rfl
theorem w_2103 : Cond.fieldLink "LedgerFilesModel" 77 "LedgerFilesModel" "logAt" "[I" ∈ TB := tp_9 37 (by decide +kernel) rfl
theorem w_2104 : Cond.fieldLink "LedgerFilesModel" 80 "LedgerFilesModel" "bufferAt" "[I" ∈ TB := tp_9 38 (by decide +kernel) rfl
theorem w_2302 : Cond.methodLink "LedgerFilesModel" 171 yX12_nothingKnown ∈ TB := tp_9 236 (by decide +kernel) rfl
theorem w_2305 : Cond.code yX12_nothingKnown prog_14_method_10_code 2 none ∈ TB := tp_9 239 rfl rfl
theorem cw_X12_171 : Cw RX12 171 yX12_nothingKnown cX12_nothingKnown 2 none 0 := ⟨w_2302, w_2305, w_161, by decide +kernel, by decide +kernel, by decide⟩
theorem w_2304 : Cond.instanceMethod yX12_nothingKnown ∈ TB := tp_9 238 (by decide +kernel) rfl
theorem w_62 : Cond.selects "LedgerFilesModel" yX12_nothingKnown yX12_nothingKnown ∈ TB := tp_0 62 (by decide +kernel) rfl
set_option maxRecDepth 100000 in
set_option maxHeartbeats 4000000 in
theorem c_X12_fails (E : gE) (f : Nat → va_E) (R : RfT) (n : Nat) (hn : n ≤ 1024) (hwn : rS R 33 = nI n) (hwb : ∀ k, k < n → ∃ t, t < 1024 ∧ rA R 30 k = nI t) (hE : 94 ≤ gN E) (r : RfV E f R) : Ct E 2 yX12_fails cX12_fails 1 none [.ref (gAd E (56))] f (fun v g => v = none ∧ RfV E g (rFl R n) ∧ Fr RfK f g, fun _ _ => False) := by
  refine Ct.of (by decide) (Nat.le_of_ble_eq_true rfl) (fun sz => ?_)
  refine G.eql [(0, .ref (gAd E (56)))] rfl ?_
  refine G.go tv_X12_fails 2 2 [(0, .ref (gAd E (56)))] [.int ((0 : Int32)), .ref (gAd E (56))] rfl ?_
  refine G.rp r hE 11 (setS (R) 11 ((0 : Int32))) rfl rfl (by decide) rfl rfl rfl (tbd tv_X12_fails rfl) w_2076 (fun u5 r5 h5 => ?_)
  refine G.go tv_X12_fails 2 7 [(0, .ref (gAd E (56)))] [.int ((-1 : Int32)), .ref (gAd E (56))] rfl ?_
  refine G.rp r5 hE 12 (setS (setS (R) 11 ((0 : Int32))) 12 ((-1 : Int32))) rfl rfl (by decide) rfl rfl rfl (tbd tv_X12_fails rfl) w_2077 (fun u6 r6 h6 => ?_)
  refine G.go tv_X12_fails 2 12 [(0, .ref (gAd E (56)))] [.int ((0 : Int32)), .ref (gAd E (56))] rfl ?_
  refine G.rp r6 hE 21 (setS (setS (setS (R) 11 ((0 : Int32))) 12 ((-1 : Int32))) 21 ((0 : Int32))) rfl rfl (by decide) rfl rfl rfl (tbd tv_X12_fails rfl) w_2086 (fun u7 r7 h7 => ?_)
  refine G.go tv_X12_fails 2 17 [(0, .ref (gAd E (56)))] [.int ((0 : Int32)), .ref (gAd E (56))] rfl ?_
  refine G.rp r7 hE 18 (setS (setS (setS (setS (R) 11 ((0 : Int32))) 12 ((-1 : Int32))) 21 ((0 : Int32))) 18 ((0 : Int32))) rfl rfl (by decide) rfl rfl rfl (tbd tv_X12_fails rfl) w_2083 (fun u8 r8 h8 => ?_)
  refine G.go tv_X12_fails 2 22 [(0, .ref (gAd E (56)))] [.int ((0 : Int32)), .ref (gAd E (56))] rfl ?_
  refine G.rp r8 hE 25 (setS (setS (setS (setS (setS (R) 11 ((0 : Int32))) 12 ((-1 : Int32))) 21 ((0 : Int32))) 18 ((0 : Int32))) 25 ((0 : Int32))) rfl rfl (by decide) rfl rfl rfl (tbd tv_X12_fails rfl) w_2090 (fun u9 r9 h9 => ?_)
  refine G.go tv_X12_fails 2 27 [(0, .ref (gAd E (56)))] [.int ((0 : Int32)), .ref (gAd E (56))] rfl ?_
  refine G.rp r9 hE 29 (setS (setS (setS (setS (setS (setS (R) 11 ((0 : Int32))) 12 ((-1 : Int32))) 21 ((0 : Int32))) 18 ((0 : Int32))) 25 ((0 : Int32))) 29 ((0 : Int32))) rfl rfl (by decide) rfl rfl rfl (tbd tv_X12_fails rfl) w_2094 (fun u10 r10 h10 => ?_)
  refine G.go tv_X12_fails 1 31 [(0, .ref (gAd E (56)))] [.ref (gAd E (56))] rfl ?_
  refine G.callV (56) [] [] (c_X12_noWorks E _ (setS (setS (setS (setS (setS (setS (R) 11 ((0 : Int32))) 12 ((-1 : Int32))) 21 ((0 : Int32))) 18 ((0 : Int32))) 25 ((0 : Int32))) 29 ((0 : Int32))) n hn hwn hwb hE r10) cls_X12 (by omega) (r10.o) cw_X12_168 w_2300 w_61 (Nat.le_of_ble_eq_true rfl) rfl (Nat.le_of_ble_eq_true rfl) (tbd tv_X12_fails rfl) (fun v1 f1 q1 => ?_) (fun _ _ h => h.elim)
  obtain ⟨rfl, ra1, fa1⟩ := q1
  refine G.eqs [] rfl ?_
  refine G.go tv_X12_fails 1 35 [(0, .ref (gAd E (56)))] [.ref (gAd E (56))] rfl ?_
  refine G.rg ra1 hE 37 (.ref (gAd E (74))) (by decide) rfl (tbd tv_X12_fails rfl) w_2102 ?_
  refine G.callS [.ref (gAd E (74))] [] (c_X12_nowhere E _ 74 (rA (rNoW (setS (setS (setS (setS (setS (setS (R) 11 ((0 : Int32))) 12 ((-1 : Int32))) 21 ((0 : Int32))) 18 ((0 : Int32))) 25 ((0 : Int32))) 29 ((0 : Int32))) n) 37) (by omega) ra1.a37) cw_X12_140 w_2063 (Nat.le_of_ble_eq_true rfl) rfl (Nat.le_of_ble_eq_true rfl) (tbd tv_X12_fails rfl) (fun v2 f2 q2 => ?_) (fun _ _ h => h.elim)
  obtain ⟨rfl, ea2⟩ := q2
  refine G.eqs [] rfl ?_
  have ra2 : RfV E f2 (setA (rNoW (setS (setS (setS (setS (setS (setS (R) 11 ((0 : Int32))) 12 ((-1 : Int32))) 21 ((0 : Int32))) 18 ((0 : Int32))) 25 ((0 : Int32))) 29 ((0 : Int32))) n) 37 (flt (rA (rNoW (setS (setS (setS (setS (setS (setS (R) 11 ((0 : Int32))) 12 ((-1 : Int32))) 21 ((0 : Int32))) 18 ((0 : Int32))) 25 ((0 : Int32))) 29 ((0 : Int32))) n) 37) 0 1024 (-1))) := RfV.ar (ra1.p37 _) ea2
  have fa2 : Fr RfK f1 f2 := Fr.ar ⟨by decide, by decide⟩ ea2
  refine G.go tv_X12_fails 1 42 [(0, .ref (gAd E (56)))] [.ref (gAd E (56))] rfl ?_
  refine G.rg ra2 hE 38 (.ref (gAd E (75))) (by decide) rfl (tbd tv_X12_fails rfl) w_2103 ?_
  refine G.callS [.ref (gAd E (75))] [] (c_X12_nowhere E _ 75 (rA (rNoW (setS (setS (setS (setS (setS (setS (R) 11 ((0 : Int32))) 12 ((-1 : Int32))) 21 ((0 : Int32))) 18 ((0 : Int32))) 25 ((0 : Int32))) 29 ((0 : Int32))) n) 38) (by omega) ra2.a38) cw_X12_140 w_2063 (Nat.le_of_ble_eq_true rfl) rfl (Nat.le_of_ble_eq_true rfl) (tbd tv_X12_fails rfl) (fun v3 f3 q3 => ?_) (fun _ _ h => h.elim)
  obtain ⟨rfl, ea3⟩ := q3
  refine G.eqs [] rfl ?_
  have ra3 : RfV E f3 (setA (setA (rNoW (setS (setS (setS (setS (setS (setS (R) 11 ((0 : Int32))) 12 ((-1 : Int32))) 21 ((0 : Int32))) 18 ((0 : Int32))) 25 ((0 : Int32))) 29 ((0 : Int32))) n) 37 (flt (rA (rNoW (setS (setS (setS (setS (setS (setS (R) 11 ((0 : Int32))) 12 ((-1 : Int32))) 21 ((0 : Int32))) 18 ((0 : Int32))) 25 ((0 : Int32))) 29 ((0 : Int32))) n) 37) 0 1024 (-1))) 38 (flt (rA (rNoW (setS (setS (setS (setS (setS (setS (R) 11 ((0 : Int32))) 12 ((-1 : Int32))) 21 ((0 : Int32))) 18 ((0 : Int32))) 25 ((0 : Int32))) 29 ((0 : Int32))) n) 38) 0 1024 (-1))) := RfV.ar (ra2.p38 _) ea3
  have fa3 : Fr RfK f2 f3 := Fr.ar ⟨by decide, by decide⟩ ea3
  refine G.go tv_X12_fails 1 49 [(0, .ref (gAd E (56)))] [.ref (gAd E (56))] rfl ?_
  refine G.rg ra3 hE 39 (.ref (gAd E (76))) (by decide) rfl (tbd tv_X12_fails rfl) w_2104 ?_
  refine G.callS [.ref (gAd E (76))] [] (c_X12_nowhere E _ 76 (rA (rNoW (setS (setS (setS (setS (setS (setS (R) 11 ((0 : Int32))) 12 ((-1 : Int32))) 21 ((0 : Int32))) 18 ((0 : Int32))) 25 ((0 : Int32))) 29 ((0 : Int32))) n) 39) (by omega) ra3.a39) cw_X12_140 w_2063 (Nat.le_of_ble_eq_true rfl) rfl (Nat.le_of_ble_eq_true rfl) (tbd tv_X12_fails rfl) (fun v4 f4 q4 => ?_) (fun _ _ h => h.elim)
  obtain ⟨rfl, ea4⟩ := q4
  refine G.eqs [] rfl ?_
  have ra4 : RfV E f4 (setA (setA (setA (rNoW (setS (setS (setS (setS (setS (setS (R) 11 ((0 : Int32))) 12 ((-1 : Int32))) 21 ((0 : Int32))) 18 ((0 : Int32))) 25 ((0 : Int32))) 29 ((0 : Int32))) n) 37 (flt (rA (rNoW (setS (setS (setS (setS (setS (setS (R) 11 ((0 : Int32))) 12 ((-1 : Int32))) 21 ((0 : Int32))) 18 ((0 : Int32))) 25 ((0 : Int32))) 29 ((0 : Int32))) n) 37) 0 1024 (-1))) 38 (flt (rA (rNoW (setS (setS (setS (setS (setS (setS (R) 11 ((0 : Int32))) 12 ((-1 : Int32))) 21 ((0 : Int32))) 18 ((0 : Int32))) 25 ((0 : Int32))) 29 ((0 : Int32))) n) 38) 0 1024 (-1))) 39 (flt (rA (rNoW (setS (setS (setS (setS (setS (setS (R) 11 ((0 : Int32))) 12 ((-1 : Int32))) 21 ((0 : Int32))) 18 ((0 : Int32))) 25 ((0 : Int32))) 29 ((0 : Int32))) n) 39) 0 1024 (-1))) := RfV.ar (ra3.p39 _) ea4
  have fa4 : Fr RfK f3 f4 := Fr.ar ⟨by decide, by decide⟩ ea4
  refine G.go tv_X12_fails 1 56 [(0, .ref (gAd E (56)))] [.ref (gAd E (56))] rfl ?_
  refine G.callV (56) [] [] (c_X12_nothingKnown E _ (setA (setA (setA (rNoW (setS (setS (setS (setS (setS (setS (R) 11 ((0 : Int32))) 12 ((-1 : Int32))) 21 ((0 : Int32))) 18 ((0 : Int32))) 25 ((0 : Int32))) 29 ((0 : Int32))) n) 37 (flt (rA (rNoW (setS (setS (setS (setS (setS (setS (R) 11 ((0 : Int32))) 12 ((-1 : Int32))) 21 ((0 : Int32))) 18 ((0 : Int32))) 25 ((0 : Int32))) 29 ((0 : Int32))) n) 37) 0 1024 (-1))) 38 (flt (rA (rNoW (setS (setS (setS (setS (setS (setS (R) 11 ((0 : Int32))) 12 ((-1 : Int32))) 21 ((0 : Int32))) 18 ((0 : Int32))) 25 ((0 : Int32))) 29 ((0 : Int32))) n) 38) 0 1024 (-1))) 39 (flt (rA (rNoW (setS (setS (setS (setS (setS (setS (R) 11 ((0 : Int32))) 12 ((-1 : Int32))) 21 ((0 : Int32))) 18 ((0 : Int32))) 25 ((0 : Int32))) 29 ((0 : Int32))) n) 39) 0 1024 (-1))) hE ra4) cls_X12 (by omega) (ra4.o) cw_X12_171 w_2304 w_62 (Nat.le_of_ble_eq_true rfl) rfl (Nat.le_of_ble_eq_true rfl) (tbd tv_X12_fails rfl) (fun v5 f5 q5 => ?_) (fun _ _ h => h.elim)
  obtain ⟨rfl, ra5, fa5⟩ := q5
  refine G.eqs [] rfl ?_
  exact G.vret rfl (⟨rfl, ra5, ((((((((((h5).tr h6 (fun _ h => h)).tr h7 (fun _ h => h)).tr h8 (fun _ h => h)).tr h9 (fun _ h => h)).tr h10 (fun _ h => h)).tr fa1 (fun _ h => h)).tr fa2 (fun _ h => h)).tr fa3 (fun _ h => h)).tr fa4 (fun _ h => h)).tr fa5 (fun _ h => h)⟩) (tbd tv_X12_fails rfl)
def tb_X12_power : List (Nat × Instr × Nat) := [(0, .aload_n 0, 1), (1, .aload_n 0, 1), (2, .getfield 25, 3), (5, .ifCond .ne 7, 3), (8, .iconst 1, 1), (9, .goto 4, 3), (12, .iconst 0, 1), (13, .iconst 1, 1), (14, .invokevirtual 385, 3), (17, .ifCond .ne 21, 3), (20, .aload_n 0, 1), (21, .iload_n 1, 1), (22, .iconst (-1), 1), (23, .if_icmp .ge 7, 3), (26, .iconst 1, 1), (27, .goto 4, 3), (30, .iconst 0, 1), (31, .iconst 2, 1), (32, .invokevirtual 385, 3), (35, .ifCond .eq 4, 3), (38, .return_, 1), (39, .aload_n 0, 1), (40, .iload_n 1, 1), (41, .putfield 29, 3), (44, .return_, 1)]
theorem tv_X12_power : Tv cX12_power tb_X12_power := by
  unfold Tv
  decide +kernel
set_option maxRecDepth 100000 in
set_option maxHeartbeats 4000000 in
theorem c_X12_power (E : gE) (f : Nat → va_E) (R : RfT) (hE : 94 ≤ gN E) (r : RfV E f R) (x : Int32) : Ct E 2 yX12_power cX12_power 2 none [.ref (gAd E (56)), .int (x)] f (fun v g => (v = none ∧ rS R 11 = 0 ∧ RfV E g (setS R 0 1) ∧ Fr RfK f g) ∨ (v = none ∧ ¬ rS R 11 = 0 ∧ x < -1 ∧ RfV E g (setS (setS R 0 0) 0 2) ∧ Fr RfK f g) ∨ (v = none ∧ ¬ rS R 11 = 0 ∧ ¬ x < -1 ∧ RfV E g (setS (setS (setS R 0 0) 0 0) 12 x) ∧ Fr RfK f g), fun _ _ => False) := by
  refine Ct.of (by decide) (Nat.le_of_ble_eq_true rfl) (fun sz => ?_)
  refine G.eql [(0, .ref (gAd E (56))), (1, .int (x))] rfl ?_
  refine G.go tv_X12_power 2 2 [(0, .ref (gAd E (56))), (1, .int (x))] [.ref (gAd E (56)), .ref (gAd E (56))] rfl ?_
  refine G.rg r hE 11 (.int (rS R 11)) (by decide) rfl (tbd tv_X12_power rfl) w_2076 ?_
  refine G.if_ne 12 (tbd tv_X12_power rfl) (by decide) (fun c5 => ?_) (fun c5 => ?_)
  · skip
    refine G.go tv_X12_power 2 14 [(0, .ref (gAd E (56))), (1, .int (x))] [.int ((1 : Int32)), .int ((0 : Int32)), .ref (gAd E (56))] rfl ?_
    refine G.callV (56) [.int ((0 : Int32)), .int ((1 : Int32))] [] (c_X12_refuse E _ (R) hE r ((0 : Int32)) ((1 : Int32)) (Or.inl rfl)) cls_X12 (by omega) (r.o) cw_X12_385 w_2268 w_53 (Nat.le_of_ble_eq_true rfl) rfl (Nat.le_of_ble_eq_true rfl) (tbd tv_X12_power rfl) (fun v1 f1 q1 => ?_) (fun _ _ h => h.elim)
    obtain ⟨rfl, ra1, fa1⟩ := q1
    refine G.eqs [.int ((0 : Int32))] rfl ?_
    refine G.if_ne 38 (tbd tv_X12_power rfl) (by decide) (fun c17 => absurd (by decide) c17) (fun c17 => ?_)
    refine G.go tv_X12_power 3 23 [(0, .ref (gAd E (56))), (1, .int (x))] [.int ((-1 : Int32)), .int (x), .ref (gAd E (56))] rfl ?_
    refine G.cmp_ge 30 (tbd tv_X12_power rfl) (by decide) (fun c23 => ?_) (fun c23 => ?_)
    · skip
      refine G.go tv_X12_power 2 32 [(0, .ref (gAd E (56))), (1, .int (x))] [.int ((2 : Int32)), .int ((0 : Int32)), .ref (gAd E (56))] rfl ?_
      refine G.callV (56) [.int ((0 : Int32)), .int ((2 : Int32))] [] (c_X12_refuse E _ (setS (R) 0 0) hE ra1 ((0 : Int32)) ((2 : Int32)) (Or.inl rfl)) cls_X12 (by omega) (ra1.o) cw_X12_385 w_2268 w_53 (Nat.le_of_ble_eq_true rfl) rfl (Nat.le_of_ble_eq_true rfl) (tbd tv_X12_power rfl) (fun v2 f2 q2 => ?_) (fun _ _ h => h.elim)
      obtain ⟨rfl, ra2, fa2⟩ := q2
      refine G.eqs [.int ((0 : Int32))] rfl ?_
      refine G.if_eq 39 (tbd tv_X12_power rfl) (by decide) (fun c35 => ?_) (fun c35 => absurd (by decide) c35)
      refine G.go tv_X12_power 2 41 [(0, .ref (gAd E (56))), (1, .int (x))] [.int (x), .ref (gAd E (56))] rfl ?_
      refine G.rp ra2 hE 12 (setS (setS (setS (R) 0 0) 0 0) 12 (x)) rfl rfl (by decide) rfl rfl rfl (tbd tv_X12_power rfl) w_2077 (fun u11 r11 h11 => ?_)
      exact G.vret rfl (Or.inr (Or.inr ⟨rfl, c5, Int32.not_lt.mpr c23, r11, ((fa1).tr fa2 (fun _ h => h)).tr h11 (fun _ h => h)⟩)) (tbd tv_X12_power rfl)
    · skip
      refine G.go tv_X12_power 3 32 [(0, .ref (gAd E (56))), (1, .int (x))] [.int ((2 : Int32)), .int ((1 : Int32)), .ref (gAd E (56))] rfl ?_
      refine G.callV (56) [.int ((1 : Int32)), .int ((2 : Int32))] [] (c_X12_refuse E _ (setS (R) 0 0) hE ra1 ((1 : Int32)) ((2 : Int32)) (Or.inr rfl)) cls_X12 (by omega) (ra1.o) cw_X12_385 w_2268 w_53 (Nat.le_of_ble_eq_true rfl) rfl (Nat.le_of_ble_eq_true rfl) (tbd tv_X12_power rfl) (fun v3 f3 q3 => ?_) (fun _ _ h => h.elim)
      obtain ⟨rfl, ra3, fa3⟩ := q3
      refine G.eqs [.int ((1 : Int32))] rfl ?_
      refine G.if_eq 39 (tbd tv_X12_power rfl) (by decide) (fun c35 => absurd c35 (by decide)) (fun c35 => ?_)
      exact G.vret rfl (by first | exact Or.inl ⟨rfl, c5, ra3, (fa1).tr fa3 (fun _ h => h)⟩ | exact Or.inr (Or.inl ⟨rfl, c5, Int32.not_le.mp c23, ra3, (fa1).tr fa3 (fun _ h => h)⟩)) (tbd tv_X12_power rfl)
  · skip
    refine G.go tv_X12_power 3 14 [(0, .ref (gAd E (56))), (1, .int (x))] [.int ((1 : Int32)), .int ((1 : Int32)), .ref (gAd E (56))] rfl ?_
    refine G.callV (56) [.int ((1 : Int32)), .int ((1 : Int32))] [] (c_X12_refuse E _ (R) hE r ((1 : Int32)) ((1 : Int32)) (Or.inr rfl)) cls_X12 (by omega) (r.o) cw_X12_385 w_2268 w_53 (Nat.le_of_ble_eq_true rfl) rfl (Nat.le_of_ble_eq_true rfl) (tbd tv_X12_power rfl) (fun v4 f4 q4 => ?_) (fun _ _ h => h.elim)
    obtain ⟨rfl, ra4, fa4⟩ := q4
    refine G.eqs [.int ((1 : Int32))] rfl ?_
    refine G.if_ne 38 (tbd tv_X12_power rfl) (by decide) (fun c17 => ?_) (fun c17 => absurd c17 (by decide))
    exact G.vret rfl (by first | exact Or.inl ⟨rfl, c5, ra4, fa4⟩ | exact Or.inr (Or.inl ⟨rfl, c5, Int32.not_le.mp c23, ra4, fa4⟩)) (tbd tv_X12_power rfl)
def tb_X12_crash : List (Nat × Instr × Nat) := [(0, .aload_n 0, 1), (1, .aload_n 0, 1), (2, .getfield 25, 3), (5, .ifCond .ne 7, 3), (8, .iconst 1, 1), (9, .goto 4, 3), (12, .iconst 0, 1), (13, .iconst 1, 1), (14, .invokevirtual 385, 3), (17, .ifCond .eq 4, 3), (20, .return_, 1), (21, .aload_n 0, 1), (22, .invokevirtual 153, 3), (25, .return_, 1)]
theorem tv_X12_crash : Tv cX12_crash tb_X12_crash := by
  unfold Tv
  decide +kernel
theorem w_2294 : Cond.methodLink "LedgerFilesModel" 153 yX12_fails ∈ TB := tp_9 228 (by decide +kernel) rfl
theorem w_2297 : Cond.code yX12_fails prog_14_method_9_code 1 none ∈ TB := tp_9 231 rfl rfl
theorem cw_X12_153 : Cw RX12 153 yX12_fails cX12_fails 1 none 0 := ⟨w_2294, w_2297, w_161, by decide +kernel, by decide +kernel, by decide⟩
theorem w_2296 : Cond.instanceMethod yX12_fails ∈ TB := tp_9 230 (by decide +kernel) rfl
theorem w_60 : Cond.selects "LedgerFilesModel" yX12_fails yX12_fails ∈ TB := tp_0 60 (by decide +kernel) rfl
set_option maxRecDepth 100000 in
set_option maxHeartbeats 4000000 in
theorem c_X12_crash (E : gE) (f : Nat → va_E) (R : RfT) (n : Nat) (hn : n ≤ 1024) (hwn : rS R 33 = nI n) (hwb : ∀ k, k < n → ∃ t, t < 1024 ∧ rA R 30 k = nI t) (hE : 94 ≤ gN E) (r : RfV E f R) : Ct E 3 yX12_crash cX12_crash 1 none [.ref (gAd E (56))] f (fun v g => (v = none ∧ rS R 11 = 0 ∧ RfV E g (setS R 0 1) ∧ Fr RfK f g) ∨ (v = none ∧ ¬ rS R 11 = 0 ∧ RfV E g (rFl (setS R 0 0) n) ∧ Fr RfK f g), fun _ _ => False) := by
  refine Ct.of (by decide) (Nat.le_of_ble_eq_true rfl) (fun sz => ?_)
  refine G.eql [(0, .ref (gAd E (56)))] rfl ?_
  refine G.go tv_X12_crash 2 2 [(0, .ref (gAd E (56)))] [.ref (gAd E (56)), .ref (gAd E (56))] rfl ?_
  refine G.rg r hE 11 (.int (rS R 11)) (by decide) rfl (tbd tv_X12_crash rfl) w_2076 ?_
  refine G.if_ne 12 (tbd tv_X12_crash rfl) (by decide) (fun c5 => ?_) (fun c5 => ?_)
  · skip
    refine G.go tv_X12_crash 2 14 [(0, .ref (gAd E (56)))] [.int ((1 : Int32)), .int ((0 : Int32)), .ref (gAd E (56))] rfl ?_
    refine G.callV (56) [.int ((0 : Int32)), .int ((1 : Int32))] [] (c_X12_refuse E _ (R) hE r ((0 : Int32)) ((1 : Int32)) (Or.inl rfl)) cls_X12 (by omega) (r.o) cw_X12_385 w_2268 w_53 (Nat.le_of_ble_eq_true rfl) rfl (Nat.le_of_ble_eq_true rfl) (tbd tv_X12_crash rfl) (fun v1 f1 q1 => ?_) (fun _ _ h => h.elim)
    obtain ⟨rfl, ra1, fa1⟩ := q1
    refine G.eqs [.int ((0 : Int32))] rfl ?_
    refine G.if_eq 21 (tbd tv_X12_crash rfl) (by decide) (fun c17 => ?_) (fun c17 => absurd (by decide) c17)
    refine G.go tv_X12_crash 1 22 [(0, .ref (gAd E (56)))] [.ref (gAd E (56))] rfl ?_
    refine G.callV (56) [] [] (c_X12_fails E _ (setS (R) 0 0) n hn hwn hwb hE ra1) cls_X12 (by omega) (ra1.o) cw_X12_153 w_2296 w_60 (Nat.le_of_ble_eq_true rfl) rfl (Nat.le_of_ble_eq_true rfl) (tbd tv_X12_crash rfl) (fun v2 f2 q2 => ?_) (fun _ _ h => h.elim)
    obtain ⟨rfl, ra2, fa2⟩ := q2
    refine G.eqs [] rfl ?_
    exact G.vret rfl (Or.inr ⟨rfl, c5, ra2, (fa1).tr fa2 (fun _ h => h)⟩) (tbd tv_X12_crash rfl)
  · skip
    refine G.go tv_X12_crash 3 14 [(0, .ref (gAd E (56)))] [.int ((1 : Int32)), .int ((1 : Int32)), .ref (gAd E (56))] rfl ?_
    refine G.callV (56) [.int ((1 : Int32)), .int ((1 : Int32))] [] (c_X12_refuse E _ (R) hE r ((1 : Int32)) ((1 : Int32)) (Or.inr rfl)) cls_X12 (by omega) (r.o) cw_X12_385 w_2268 w_53 (Nat.le_of_ble_eq_true rfl) rfl (Nat.le_of_ble_eq_true rfl) (tbd tv_X12_crash rfl) (fun v3 f3 q3 => ?_) (fun _ _ h => h.elim)
    obtain ⟨rfl, ra3, fa3⟩ := q3
    refine G.eqs [.int ((1 : Int32))] rfl ?_
    refine G.if_eq 21 (tbd tv_X12_crash rfl) (by decide) (fun c17 => absurd c17 (by decide)) (fun c17 => ?_)
    exact G.vret rfl (Or.inl ⟨rfl, c5, ra3, fa3⟩) (tbd tv_X12_crash rfl)
def tb_X12_restart : List (Nat × Instr × Nat) := [(0, .aload_n 0, 1), (1, .aload_n 0, 1), (2, .getfield 25, 3), (5, .iconst 1, 1), (6, .invokevirtual 385, 3), (9, .ifCond .eq 5, 3), (12, .iconst 0, 1), (13, .ireturn, 1), (14, .lload_n 1, 1), (15, .lstore_n 3, 1), (16, .iconst 0, 1), (17, .istore 5, 2), (19, .iconst 0, 1), (20, .istore 6, 2), (22, .iload 6, 2), (24, .aload_n 0, 1), (25, .getfield 131, 3), (28, .if_icmp .ge 147, 3), (31, .aload_n 0, 1), (32, .iload 6, 2), (34, .invokevirtual 505, 3), (37, .istore 7, 2), (39, .iload 7, 2), (41, .ifCond .le 128, 3), (44, .iinc 5 1, 3), (47, .lload_n 3, 1), (48, .ldc2_w 508, 3), (51, .lmul, 1), (52, .ldc2_w 510, 3), (55, .ladd, 1), (56, .lstore_n 3, 1), (57, .lload_n 3, 1), (58, .bipush 33, 2), (60, .lushr, 1), (61, .iconst 1, 1), (62, .iload 7, 2), (64, .iadd, 1), (65, .i2l, 1), (66, .lrem, 1), (67, .l2i, 1), (68, .istore 8, 2), (70, .iconst 0, 1), (71, .istore 9, 2), (73, .iconst 0, 1), (74, .istore 10, 2), (76, .iload 10, 2), (78, .aload_n 0, 1), (79, .getfield 184, 3), (82, .if_icmp .ge 87, 3), (85, .aload_n 0, 1), (86, .getfield 187, 3), (89, .iload 10, 2), (91, .iadd, 1), (92, .sipush 256, 3), (95, .irem, 1), (96, .istore 11, 2), (98, .aload_n 0, 1), (99, .getfield 17, 3), (102, .iload 11, 2), (104, .iaload, 1), (105, .iload 6, 2), (107, .if_icmp .ne 10, 3), (110, .iload 9, 2), (112, .iconst 1, 1), (113, .iadd, 1), (114, .goto 5, 3), (117, .iload 9, 2), (119, .istore 9, 2), (121, .aload_n 0, 1), (122, .getfield 17, 3), (125, .iload 11, 2), (127, .iaload, 1), (128, .iload 6, 2), (130, .if_icmp .ne 33, 3), (133, .iload 9, 2), (135, .iload 8, 2), (137, .if_icmp .ne 26, 3), (140, .aload_n 0, 1), (141, .getfield 22, 3), (144, .sipush 128, 3), (147, .iload 11, 2), (149, .imul, 1), (150, .aload_n 0, 1), (151, .getfield 14, 3), (154, .sipush 128, 3), (157, .iload 6, 2), (159, .imul, 1), (160, .invokestatic 190, 3), (163, .iinc 10 1, 3), (166, .goto (-90), 3), (169, .iinc 6 1, 3), (172, .goto (-150), 3), (175, .aload_n 0, 1), (176, .iconst 0, 1), (177, .putfield 184, 3), (180, .aload_n 0, 1), (181, .getfield 83, 3), (184, .invokestatic 140, 3), (187, .aload_n 0, 1), (188, .iconst 1, 1), (189, .putfield 25, 3), (192, .aload_n 0, 1), (193, .iconst (-1), 1), (194, .putfield 29, 3), (197, .iload 5, 2), (199, .ireturn, 1)]
theorem tv_X12_restart : Tv cX12_restart tb_X12_restart := by
  unfold Tv
  decide +kernel
set_option maxRecDepth 100000 in
set_option maxHeartbeats 4000000 in
theorem u_X12_restart (E : gE) (f : Nat → va_E) (R : RfT) (hE : 94 ≤ gN E) (r : RfV E f R) (hon : rS R 11 = 1) (x : Int64) : Ct E 2 yX12_restart cX12_restart 12 (some .int) [.ref (gAd E (56)), .long (x)] f (fun v g => v = some (.int 0) ∧ RfV E g (setS R 0 1) ∧ Fr RfK f g, fun _ _ => False) := by
  refine Ct.of (by decide) (Nat.le_of_ble_eq_true rfl) (fun sz => ?_)
  refine G.eql [(0, .ref (gAd E (56))), (1, .long (x))] rfl ?_
  refine G.go tv_X12_restart 2 2 [(0, .ref (gAd E (56))), (1, .long (x))] [.ref (gAd E (56)), .ref (gAd E (56))] rfl ?_
  refine G.rg r hE 11 (.int (rS R 11)) (by decide) rfl (tbd tv_X12_restart rfl) w_2076 ?_
  refine G.eqs [.int ((1 : Int32)), .ref (gAd E (56))] (by rw [hon]) ?_
  refine G.go tv_X12_restart 1 6 [(0, .ref (gAd E (56))), (1, .long (x))] [.int ((1 : Int32)), .int ((1 : Int32)), .ref (gAd E (56))] rfl ?_
  refine G.callV (56) [.int ((1 : Int32)), .int ((1 : Int32))] [] (c_X12_refuse E _ (R) hE r ((1 : Int32)) ((1 : Int32)) (Or.inr rfl)) cls_X12 (by omega) (r.o) cw_X12_385 w_2268 w_53 (Nat.le_of_ble_eq_true rfl) rfl (Nat.le_of_ble_eq_true rfl) (tbd tv_X12_restart rfl) (fun v1 f1 q1 => ?_) (fun _ _ h => h.elim)
  obtain ⟨rfl, ra1, fa1⟩ := q1
  refine G.eqs [.int ((1 : Int32))] rfl ?_
  refine G.if_eq 14 (tbd tv_X12_restart rfl) (by decide) (fun c9 => absurd c9 (by decide)) (fun c9 => ?_)
  refine G.go tv_X12_restart 1 13 [(0, .ref (gAd E (56))), (1, .long (x))] [.int ((0 : Int32))] rfl ?_
  exact G.iret rfl rfl (⟨rfl, ra1, fa1⟩) (tbd tv_X12_restart rfl)
def tb_X12_isByte : List (Nat × Instr × Nat) := [(0, .iload_n 1, 1), (1, .ifCond .lt 26, 3), (4, .iload_n 1, 1), (5, .aload_n 0, 1), (6, .getfield 131, 3), (9, .if_icmp .ge 18, 3), (12, .iload_n 2, 1), (13, .ifCond .lt 14, 3), (16, .iload_n 2, 1), (17, .sipush 128, 3), (20, .if_icmp .ge 7, 3), (23, .iconst 1, 1), (24, .goto 4, 3), (27, .iconst 0, 1), (28, .ireturn, 1)]
theorem tv_X12_isByte : Tv cX12_isByte tb_X12_isByte := by
  unfold Tv
  decide +kernel
theorem w_2066 : Cond.fieldLink "LedgerFilesModel" 131 "LedgerFilesModel" "blocks" "I" ∈ TB := tp_9 0 (by decide +kernel) rfl
set_option maxRecDepth 100000 in
set_option maxHeartbeats 4000000 in
theorem c_X12_isByte (E : gE) (f : Nat → va_E) (R : RfT) (hE : 94 ≤ gN E) (r : RfV E f R) (N : Nat) (hN : rS R 1 = nI N) (x i : Int32) : Ct E 1 yX12_isByte cX12_isByte 3 (some .boolean) [.ref (gAd E (56)), .int (x), .int (i)] f (fun v g => f = g ∧ ((¬ (¬ x < 0 ∧ x < nI N ∧ ¬ i < 0 ∧ i < 128) ∧ v = some (.int 0)) ∨ (¬ x < 0 ∧ x < nI N ∧ ¬ i < 0 ∧ i < 128 ∧ v = some (.int 1))), fun _ _ => False) := by
  refine Ct.of (by decide) (Nat.le_of_ble_eq_true rfl) (fun sz => ?_)
  refine G.eql [(0, .ref (gAd E (56))), (1, .int (x)), (2, .int (i))] rfl ?_
  refine G.go tv_X12_isByte 1 1 [(0, .ref (gAd E (56))), (1, .int (x)), (2, .int (i))] [.int (x)] rfl ?_
  refine G.if_lt 27 (tbd tv_X12_isByte rfl) (by decide) (fun c1 => ?_) (fun c1 => ?_)
  · skip
    refine G.go tv_X12_isByte 1 28 [(0, .ref (gAd E (56))), (1, .int (x)), (2, .int (i))] [.int ((0 : Int32))] rfl ?_
    exact G.iret rfl rfl ⟨rfl, Or.inl ⟨by rw [← hN]; first | exact fun q => q.1 c1 | exact fun q => absurd q.2.1 (Int32.not_lt.mpr c9) | exact fun q => q.2.2.1 c13 | exact fun q => absurd q.2.2.2 (Int32.not_lt.mpr c20), rfl⟩⟩ (tbd tv_X12_isByte rfl)
  · skip
    refine G.go tv_X12_isByte 2 6 [(0, .ref (gAd E (56))), (1, .int (x)), (2, .int (i))] [.ref (gAd E (56)), .int (x)] rfl ?_
    refine G.rg r hE 1 (.int (rS R 1)) (by decide) rfl (tbd tv_X12_isByte rfl) w_2066 ?_
    refine G.cmp_ge 27 (tbd tv_X12_isByte rfl) (by decide) (fun c9 => ?_) (fun c9 => ?_)
    · skip
      refine G.go tv_X12_isByte 1 28 [(0, .ref (gAd E (56))), (1, .int (x)), (2, .int (i))] [.int ((0 : Int32))] rfl ?_
      exact G.iret rfl rfl ⟨rfl, Or.inl ⟨by rw [← hN]; first | exact fun q => q.1 c1 | exact fun q => absurd q.2.1 (Int32.not_lt.mpr c9) | exact fun q => q.2.2.1 c13 | exact fun q => absurd q.2.2.2 (Int32.not_lt.mpr c20), rfl⟩⟩ (tbd tv_X12_isByte rfl)
    · skip
      refine G.go tv_X12_isByte 1 13 [(0, .ref (gAd E (56))), (1, .int (x)), (2, .int (i))] [.int (i)] rfl ?_
      refine G.if_lt 27 (tbd tv_X12_isByte rfl) (by decide) (fun c13 => ?_) (fun c13 => ?_)
      · skip
        refine G.go tv_X12_isByte 1 28 [(0, .ref (gAd E (56))), (1, .int (x)), (2, .int (i))] [.int ((0 : Int32))] rfl ?_
        exact G.iret rfl rfl ⟨rfl, Or.inl ⟨by rw [← hN]; first | exact fun q => q.1 c1 | exact fun q => absurd q.2.1 (Int32.not_lt.mpr c9) | exact fun q => q.2.2.1 c13 | exact fun q => absurd q.2.2.2 (Int32.not_lt.mpr c20), rfl⟩⟩ (tbd tv_X12_isByte rfl)
      · skip
        refine G.go tv_X12_isByte 2 20 [(0, .ref (gAd E (56))), (1, .int (x)), (2, .int (i))] [.int ((128 : Int32)), .int (i)] rfl ?_
        refine G.cmp_ge 27 (tbd tv_X12_isByte rfl) (by decide) (fun c20 => ?_) (fun c20 => ?_)
        · skip
          refine G.go tv_X12_isByte 1 28 [(0, .ref (gAd E (56))), (1, .int (x)), (2, .int (i))] [.int ((0 : Int32))] rfl ?_
          exact G.iret rfl rfl ⟨rfl, Or.inl ⟨by rw [← hN]; first | exact fun q => q.1 c1 | exact fun q => absurd q.2.1 (Int32.not_lt.mpr c9) | exact fun q => q.2.2.1 c13 | exact fun q => absurd q.2.2.2 (Int32.not_lt.mpr c20), rfl⟩⟩ (tbd tv_X12_isByte rfl)
        · skip
          refine G.go tv_X12_isByte 2 28 [(0, .ref (gAd E (56))), (1, .int (x)), (2, .int (i))] [.int ((1 : Int32))] rfl ?_
          exact G.iret rfl rfl ⟨rfl, Or.inr ⟨c1, by rw [← hN]; exact Int32.not_le.mp c9, c13, Int32.not_le.mp c20, rfl⟩⟩ (tbd tv_X12_isByte rfl)
