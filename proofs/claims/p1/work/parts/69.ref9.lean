theorem rOk_44 {R : RfT} {B : Nat} {x : Nat → Int32} (h : rOk R B) (hx : Byt x) : rOk (setA R 44 x) B := by
  obtain ⟨wf, w, hd, n, ⟨⟨a1, a2, a3, a4⟩, b, c, ⟨d1, d2, d3, d4⟩, e, f, g⟩, hk⟩ := h
  exact ⟨wf, w, hd, n, ⟨⟨a1, a2, a3, a4⟩, b, c, ⟨d1, d2, d3, hx⟩, e, f, g⟩, hk⟩
theorem rOk_0 {R : RfT} {B : Nat} {v : Int32} (h : rOk R B) : rOk (setS R 0 v) B := by
  obtain ⟨wf, w, hd, n, ⟨⟨a1, a2, a3, a4⟩, b, c, ⟨d1, d2, d3, d4⟩, e, f, g⟩, hk⟩ := h
  exact ⟨wf, w, hd, n, ⟨⟨a1, a2, a3, a4⟩, b, c, ⟨d1, d2, d3, d4⟩, e, f, g⟩, hk⟩
theorem rOk_22 {R : RfT} {B : Nat} {v : Int32} (h : rOk R B) : rOk (setS R 22 v) B := by
  obtain ⟨wf, w, hd, n, ⟨⟨a1, a2, a3, a4⟩, b, c, ⟨d1, d2, d3, d4⟩, e, f, g⟩, hk⟩ := h
  exact ⟨wf, w, hd, n, ⟨⟨a1, a2, a3, a4⟩, b, c, ⟨d1, d2, d3, d4⟩, e, f, g⟩, hk⟩
theorem rOk.b44 {R : RfT} {B : Nat} (h : rOk R B) : Byt (rA R 44) := by
  obtain ⟨wf, w, hd, n, h, -⟩ := h
  exact h.2.2.2.1.2.2.2
theorem rEm_b {R : RfT} {B : Nat} (h : rOk R B) : Byt (flt (rA R 44) 0 128 0) := Byt_flt h.b44 (by decide)
theorem rEm_ok {R : RfT} {B : Nat} (h : rOk R B) : rOk (rEm R) B := rOk_44 h (rEm_b h)
/-- out goes to block t -/
def rGo (R : RfT) (t : Nat) : RfT := rHand R 44 0 t
theorem rGo_ok {R : RfT} {B t : Nat} (h : rOk R B) (ht : t < 1024) : rOk (rGo R t) B := rHand_ok h ht h.b44 (by decide) (by decide) (by decide) (by decide) (by decide) (by decide) (by decide)
theorem c_go (E : gE) (f : Nat → va_E) (R : RfT) (B t : Nat) (h : rOk R B) (ht : t < 1024) (hE : 94 ≤ gN E) (r : RfV E f R) : Ct E 5 yX12_hand cX12_hand 7 none [.ref (gAd E (56)), .int (nI t), .ref (gAd E (79)), .int (nI (0))] f (fun v g => v = none ∧ RfV E g (rGo R t) ∧ Fr RfK f g, fun _ _ => False) := by
  have hb := h.b44
  obtain ⟨wf, w, hd, n, h, hk⟩ := h
  exact c_X12_hand_out E f R wf w B hd n h hk hE r t ht hb
def rPz (R : RfT) (t : Nat) : RfT := rGo (rEm R) t
theorem rPz_ok {R : RfT} {B t : Nat} (h : rOk R B) (ht : t < 1024) : rOk (rPz R t) B := rGo_ok (rEm_ok h) ht
def tb_X12_putZero : List (Nat × Instr × Nat) := [(0, .aload_n 0, 1), (1, .invokevirtual 249, 3), (4, .aload_n 0, 1), (5, .iload_n 1, 1), (6, .aload_n 0, 1), (7, .getfield 89, 3), (10, .iconst 0, 1), (11, .invokevirtual 252, 3), (14, .return_, 1)]
theorem tv_X12_putZero : Tv cX12_putZero tb_X12_putZero := by
  unfold Tv
  decide +kernel
theorem w_2274 : Cond.methodLink "LedgerFilesModel" 249 yX12_empty ∈ TB := tp_9 208 (by decide +kernel) rfl
theorem w_2277 : Cond.code yX12_empty prog_14_method_22_code 2 none ∈ TB := tp_9 211 rfl rfl
theorem cw_X12_249 : Cw RX12 249 yX12_empty cX12_empty 2 none 0 := ⟨w_2274, w_2277, w_161, by decide +kernel, by decide +kernel, by decide⟩
theorem w_2276 : Cond.instanceMethod yX12_empty ∈ TB := tp_9 210 (by decide +kernel) rfl
theorem w_55 : Cond.selects "LedgerFilesModel" yX12_empty yX12_empty ∈ TB := tp_0 55 (by decide +kernel) rfl
theorem w_2278 : Cond.methodLink "LedgerFilesModel" 252 yX12_hand ∈ TB := tp_9 212 (by decide +kernel) rfl
theorem w_2281 : Cond.code yX12_hand prog_14_method_17_code 7 none ∈ TB := tp_9 215 rfl rfl
theorem cw_X12_252 : Cw RX12 252 yX12_hand cX12_hand 7 none 3 := ⟨w_2278, w_2281, w_161, by decide +kernel, by decide +kernel, by decide⟩
theorem w_2280 : Cond.instanceMethod yX12_hand ∈ TB := tp_9 214 (by decide +kernel) rfl
theorem w_56 : Cond.selects "LedgerFilesModel" yX12_hand yX12_hand ∈ TB := tp_0 56 (by decide +kernel) rfl
set_option maxRecDepth 100000 in
set_option maxHeartbeats 4000000 in
theorem c_X12_putZero (E : gE) (f : Nat → va_E) (R : RfT) (B : Nat) (hok : rOk R B) (hE : 94 ≤ gN E) (r : RfV E f R) (t : Nat) (ht : t < 1024) : Ct E 6 yX12_putZero cX12_putZero 2 none [.ref (gAd E (56)), .int (nI t)] f (fun v g => v = none ∧ RfV E g (rPz R t) ∧ Fr RfK f g, fun _ _ => False) := by
  refine Ct.of (by decide) (Nat.le_of_ble_eq_true rfl) (fun sz => ?_)
  refine G.eql [(0, .ref (gAd E (56))), (1, .int (nI t))] rfl ?_
  refine G.go tv_X12_putZero 1 1 [(0, .ref (gAd E (56))), (1, .int (nI t))] [.ref (gAd E (56))] rfl ?_
  refine G.callV (56) [] [] (c_X12_empty E _ (R) hE r) cls_X12 (by omega) (r.o) cw_X12_249 w_2276 w_55 (Nat.le_of_ble_eq_true rfl) rfl (Nat.le_of_ble_eq_true rfl) (tbd tv_X12_putZero rfl) (fun v1 f1 q1 => ?_) (fun _ _ h => h.elim)
  obtain ⟨rfl, ra1, fa1⟩ := q1
  refine G.eqs [] rfl ?_
  have ok1 : rOk (rEm (R)) B := rEm_ok hok
  refine G.go tv_X12_putZero 3 7 [(0, .ref (gAd E (56))), (1, .int (nI t))] [.ref (gAd E (56)), .int (nI t), .ref (gAd E (56))] rfl ?_
  refine G.rg ra1 hE 44 (.ref (gAd E (79))) (by decide) rfl (tbd tv_X12_putZero rfl) w_2109 ?_
  refine G.go tv_X12_putZero 1 11 [(0, .ref (gAd E (56))), (1, .int (nI t))] [.int ((0 : Int32)), .ref (gAd E (79)), .int (nI t), .ref (gAd E (56))] rfl ?_
  refine G.eqs [.int (nI (0)), .ref (gAd E (79)), .int (nI t), .ref (gAd E (56))] rfl ?_
  refine G.callV (56) [.int (nI t), .ref (gAd E (79)), .int (nI (0))] [] (c_go E _ (rEm (R)) B (t) ok1 (by omega) hE ra1) cls_X12 (by omega) (ra1.o) cw_X12_252 w_2280 w_56 (Nat.le_of_ble_eq_true rfl) rfl (Nat.le_of_ble_eq_true rfl) (tbd tv_X12_putZero rfl) (fun v2 f2 q2 => ?_) (fun _ _ h => h.elim)
  obtain ⟨rfl, ra2, fa2⟩ := q2
  refine G.eqs [] rfl ?_
  have ok2 : rOk (rGo (rEm (R)) (t)) B := rGo_ok ok1 (by omega)
  exact G.vret rfl (⟨rfl, ra2, (fa1).tr fa2 (fun _ h => h)⟩) (tbd tv_X12_putZero rfl)
def mlB (h : Int32) (lb : Nat → Int32) : Nat → Int32
  | 0 => h
  | j + 1 => mlB h lb j * 31 + ((lb (j / 2) >>> (((8 : Int32) * nI (j % 2)) &&& 31)) &&& 255)
def rHo2 (R : RfT) (en : Nat) (tu : Int32) : Nat → Int32 := stV (stV (flt (rA R 44) 0 128 0) 0 (nI en) 2) 2 tu 4
def rHo (R : RfT) (en : Nat) (tu : Int32) : Nat → Int32 := stV (rHo2 R en tu) 6 (mixV (mlB (mixV 7 (rHo2 R en tu) 6) (rA R 23) (2 * en)) (rA R 24) (128 * en)) 4
def rPh (R : RfT) (en : Nat) (tu : Int32) : RfT := rGo (setA (setS R 22 tu) 44 (rHo R en tu)) 1
theorem rHo2_b {R : RfT} {B en : Nat} {tu : Int32} (h : rOk R B) : Byt (rHo2 R en tu) := stV_b (stV_b (rEm_b h) _) _
theorem rPh_ok {R : RfT} {B en : Nat} {tu : Int32} (h : rOk R B) : rOk (rPh R en tu) B := rGo_ok (rOk_44 (rOk_22 h) (stV_b (rHo2_b h) _)) (by decide)
def tb_X12_putHead : List (Nat × Instr × Nat) := [(0, .aload_n 0, 1), (1, .iload_n 2, 1), (2, .putfield 246, 3), (5, .aload_n 0, 1), (6, .invokevirtual 249, 3), (9, .aload_n 0, 1), (10, .getfield 89, 3), (13, .iconst 0, 1), (14, .iconst 2, 1), (15, .iload_n 1, 1), (16, .invokestatic 242, 3), (19, .aload_n 0, 1), (20, .getfield 89, 3), (23, .iconst 2, 1), (24, .iconst 4, 1), (25, .aload_n 0, 1), (26, .getfield 246, 3), (29, .invokestatic 242, 3), (32, .bipush 7, 2), (34, .istore_n 3, 1), (35, .iconst 0, 1), (36, .istore 4, 2), (38, .iload 4, 2), (40, .bipush 6, 2), (42, .if_icmp .ge 26, 3), (45, .iload_n 3, 1), (46, .bipush 31, 2), (48, .imul, 1), (49, .aload_n 0, 1), (50, .getfield 89, 3), (53, .iload 4, 2), (55, .baload, 1), (56, .sipush 255, 3), (59, .iand, 1), (60, .iadd, 1), (61, .istore_n 3, 1), (62, .iinc 4 1, 3), (65, .goto (-27), 3), (68, .iconst 0, 1), (69, .istore 4, 2), (71, .iload 4, 2), (73, .iconst 2, 1), (74, .iload_n 1, 1), (75, .imul, 1), (76, .if_icmp .ge 36, 3), (79, .iload_n 3, 1), (80, .bipush 31, 2), (82, .imul, 1), (83, .aload_n 0, 1), (84, .getfield 43, 3), (87, .iload 4, 2), (89, .iconst 2, 1), (90, .idiv, 1), (91, .iaload, 1), (92, .bipush 8, 2), (94, .iload 4, 2), (96, .iconst 2, 1), (97, .irem, 1), (98, .imul, 1), (99, .ishr, 1), (100, .sipush 255, 3), (103, .iand, 1), (104, .iadd, 1), (105, .istore_n 3, 1), (106, .iinc 4 1, 3), (109, .goto (-38), 3), (112, .iconst 0, 1), (113, .istore 4, 2), (115, .iload 4, 2), (117, .sipush 128, 3), (120, .iload_n 1, 1), (121, .imul, 1), (122, .if_icmp .ge 26, 3), (125, .iload_n 3, 1), (126, .bipush 31, 2), (128, .imul, 1), (129, .aload_n 0, 1), (130, .getfield 46, 3), (133, .iload 4, 2), (135, .baload, 1), (136, .sipush 255, 3), (139, .iand, 1), (140, .iadd, 1), (141, .istore_n 3, 1), (142, .iinc 4 1, 3), (145, .goto (-30), 3), (148, .aload_n 0, 1), (149, .getfield 89, 3), (152, .bipush 6, 2), (154, .iconst 4, 1), (155, .iload_n 3, 1), (156, .invokestatic 242, 3), (159, .aload_n 0, 1), (160, .iconst 1, 1), (161, .aload_n 0, 1), (162, .getfield 89, 3), (165, .iconst 0, 1), (166, .invokevirtual 252, 3), (169, .return_, 1)]
theorem tv_X12_putHead : Tv cX12_putHead tb_X12_putHead := by
  unfold Tv
  decide +kernel
set_option maxRecDepth 100000 in
set_option maxHeartbeats 4000000 in
theorem ph1 (E : gE) (f0 : Nat → va_E) (sz : Nat) (A : Nat → Prop) (Q : gQ) (hE : 94 ≤ gN E) (R : RfT) (en : Nat) (hen : en ≤ 40) (tu x : Int32) (o : Nat → Int32) (kq : ∀ g, RfV E g (setA (setS R 22 tu) 44 o) → Fr RfK f0 g → G E (6, yX12_putHead, 5, none, sz, A) cX12_putHead (gO E (6, yX12_putHead, 5, none, sz, A) Q) 68 [(0, .ref (gAd E (56))), (1, .int (nI en)), (2, .int (tu)), (3, .int (mixV x o (6))), (4, .int (nI (6)))] [] g) : ∀ (d j : Nat), j + d = 6 → ∀ f, RfV E f (setA (setS R 22 tu) 44 o) → Fr RfK f0 f → G E (6, yX12_putHead, 5, none, sz, A) cX12_putHead (gO E (6, yX12_putHead, 5, none, sz, A) Q) 38 [(0, .ref (gAd E (56))), (1, .int (nI en)), (2, .int (tu)), (3, .int (mixV x o (j))), (4, .int (nI (j)))] [] f := by
  intro d
  induction d with
  | zero =>
    intro j e f r hf
    have e : j = 6 := e
    refine G.go tv_X12_putHead 2 42 [(0, .ref (gAd E (56))), (1, .int (nI en)), (2, .int (tu)), (3, .int (mixV x o (j))), (4, .int (nI (j)))] [.int ((6 : Int32)), .int (nI (j))] rfl ?_
    refine G.cmp_ge 68 (tbd tv_X12_putHead rfl) (by decide) (fun c42 => ?_) (fun c42 => absurd (by rw [e]; exact (nI_le (Nat.le_refl _) (by omega) : nI 6 ≤ nI 6)) c42)
    refine G.eql [(0, .ref (gAd E (56))), (1, .int (nI en)), (2, .int (tu)), (3, .int (mixV x o (6))), (4, .int (nI (6)))] (by rw [e]) ?_
    exact kq _ (by first | exact r | exact e ▸ r) (hf)
  | succ d ih =>
    intro j e f r hf
    refine G.go tv_X12_putHead 2 42 [(0, .ref (gAd E (56))), (1, .int (nI en)), (2, .int (tu)), (3, .int (mixV x o (j))), (4, .int (nI (j)))] [.int ((6 : Int32)), .int (nI (j))] rfl ?_
    refine G.cmp_ge 68 (tbd tv_X12_putHead rfl) (by decide) (fun c42 => absurd c42 ((nI_ge (by omega) (by omega) : ¬ nI 6 ≤ nI j))) (fun c42 => ?_)
    refine G.go tv_X12_putHead 4 50 [(0, .ref (gAd E (56))), (1, .int (nI en)), (2, .int (tu)), (3, .int (mixV x o (j))), (4, .int (nI (j)))] [.ref (gAd E (56)), .int ((mixV x o (j)) * ((31 : Int32)))] rfl ?_
    refine G.rg r hE 44 (.ref (gAd E (79))) (by decide) rfl (tbd tv_X12_putHead rfl) w_2109 ?_
    refine G.go tv_X12_putHead 1 55 [(0, .ref (gAd E (56))), (1, .int (nI en)), (2, .int (tu)), (3, .int (mixV x o (j))), (4, .int (nI (j)))] [.int (nI (j)), .ref (gAd E (79)), .int ((mixV x o (j)) * ((31 : Int32)))] rfl ?_
    refine G.baldN (79) (j) (by omega) (r.a44) (by omega) (by decide) (tbd tv_X12_putHead rfl) ?_
    refine G.go tv_X12_putHead 6 38 [(0, .ref (gAd E (56))), (1, .int (nI en)), (2, .int (tu)), (3, .int (((mixV x o (j)) * ((31 : Int32))) + (((o) (j)) &&& ((255 : Int32))))), (4, .int (nI (j) + (1 : Int32)))] [] rfl ?_
    refine G.eql [(0, .ref (gAd E (56))), (1, .int (nI en)), (2, .int (tu)), (3, .int (mixV x o (j + 1))), (4, .int (nI (j + 1)))] (by rw [nI_1]; rfl) ?_
    exact ih (j + 1) (by omega) _ (r) (hf)
theorem w_2088 : Cond.fieldLink "LedgerFilesModel" 43 "LedgerFilesModel" "logBlock" "[I" ∈ TB := tp_9 22 (by decide +kernel) rfl
set_option maxRecDepth 100000 in
set_option maxHeartbeats 4000000 in
theorem ph2 (E : gE) (f0 : Nat → va_E) (sz : Nat) (A : Nat → Prop) (Q : gQ) (hE : 94 ≤ gN E) (R : RfT) (en : Nat) (hen : en ≤ 40) (tu x : Int32) (o : Nat → Int32) (kq : ∀ g, RfV E g (setA (setS R 22 tu) 44 o) → Fr RfK f0 g → G E (6, yX12_putHead, 5, none, sz, A) cX12_putHead (gO E (6, yX12_putHead, 5, none, sz, A) Q) 112 [(0, .ref (gAd E (56))), (1, .int (nI en)), (2, .int (tu)), (3, .int (mlB x (rA R 23) (2 * en))), (4, .int (nI (2 * en)))] [] g) : ∀ (d j : Nat), j + d = 2 * en → ∀ f, RfV E f (setA (setS R 22 tu) 44 o) → Fr RfK f0 f → G E (6, yX12_putHead, 5, none, sz, A) cX12_putHead (gO E (6, yX12_putHead, 5, none, sz, A) Q) 71 [(0, .ref (gAd E (56))), (1, .int (nI en)), (2, .int (tu)), (3, .int (mlB x (rA R 23) (j))), (4, .int (nI (j)))] [] f := by
  intro d
  induction d with
  | zero =>
    intro j e f r hf
    have e : j = 2 * en := e
    refine G.go tv_X12_putHead 4 76 [(0, .ref (gAd E (56))), (1, .int (nI en)), (2, .int (tu)), (3, .int (mlB x (rA R 23) (j))), (4, .int (nI (j)))] [.int (((2 : Int32)) * (nI en)), .int (nI (j))] rfl ?_
    refine G.cmp_ge 112 (tbd tv_X12_putHead rfl) (by decide) (fun c76 => ?_) (fun c76 => absurd (by rw [show (2 : Int32) = nI 2 from rfl, pk_mul, e]; exact nI_le (Nat.le_refl _) (by omega)) c76)
    refine G.eql [(0, .ref (gAd E (56))), (1, .int (nI en)), (2, .int (tu)), (3, .int (mlB x (rA R 23) (2 * en))), (4, .int (nI (2 * en)))] (by rw [e]) ?_
    exact kq _ (by first | exact r | exact e ▸ r) (hf)
  | succ d ih =>
    intro j e f r hf
    refine G.go tv_X12_putHead 4 76 [(0, .ref (gAd E (56))), (1, .int (nI en)), (2, .int (tu)), (3, .int (mlB x (rA R 23) (j))), (4, .int (nI (j)))] [.int (((2 : Int32)) * (nI en)), .int (nI (j))] rfl ?_
    refine G.cmp_ge 112 (tbd tv_X12_putHead rfl) (by decide) (fun c76 => absurd c76 (by rw [show (2 : Int32) = nI 2 from rfl, pk_mul]; exact nI_ge (by omega) (by omega))) (fun c76 => ?_)
    refine G.go tv_X12_putHead 4 84 [(0, .ref (gAd E (56))), (1, .int (nI en)), (2, .int (tu)), (3, .int (mlB x (rA R 23) (j))), (4, .int (nI (j)))] [.ref (gAd E (56)), .int ((mlB x (rA R 23) (j)) * ((31 : Int32)))] rfl ?_
    refine G.rg r hE 23 (.ref (gAd E (64))) (by decide) rfl (tbd tv_X12_putHead rfl) w_2088 ?_
    refine G.go tv_X12_putHead 2 90 [(0, .ref (gAd E (56))), (1, .int (nI en)), (2, .int (tu)), (3, .int (mlB x (rA R 23) (j))), (4, .int (nI (j)))] [.int ((2 : Int32)), .int (nI (j)), .ref (gAd E (64)), .int ((mlB x (rA R 23) (j)) * ((31 : Int32)))] rfl ?_
    refine G.idiv (by decide) (tbd tv_X12_putHead rfl) ?_
    refine G.eqs [.int (nI (j / 2)), .ref (gAd E (64)), .int ((mlB x (rA R 23) (j)) * ((31 : Int32)))] (by rw [show (2 : Int32) = nI 2 from rfl, pk_div (by omega) (by omega) (by omega)]) ?_
    refine G.ialdN (64) (j / 2) (by omega) (r.a23) (by omega) (by decide) (tbd tv_X12_putHead rfl) ?_
    refine G.go tv_X12_putHead 3 97 [(0, .ref (gAd E (56))), (1, .int (nI en)), (2, .int (tu)), (3, .int (mlB x (rA R 23) (j))), (4, .int (nI (j)))] [.int ((2 : Int32)), .int (nI (j)), .int ((8 : Int32)), .int ((rA R 23) (j / 2)), .int ((mlB x (rA R 23) (j)) * ((31 : Int32)))] rfl ?_
    refine G.irem (by decide) (tbd tv_X12_putHead rfl) ?_
    refine G.eqs [.int (nI (j % 2)), .int ((8 : Int32)), .int ((rA R 23) (j / 2)), .int ((mlB x (rA R 23) (j)) * ((31 : Int32)))] (by rw [show (2 : Int32) = nI 2 from rfl, pk_rem (by omega) (by omega) (by omega)]) ?_
    refine G.go tv_X12_putHead 8 71 [(0, .ref (gAd E (56))), (1, .int (nI en)), (2, .int (tu)), (3, .int (((mlB x (rA R 23) (j)) * ((31 : Int32))) + ((((rA R 23) (j / 2)) >>> ((((8 : Int32)) * (nI (j % 2))) &&& 31)) &&& ((255 : Int32))))), (4, .int (nI (j) + (1 : Int32)))] [] rfl ?_
    refine G.eql [(0, .ref (gAd E (56))), (1, .int (nI en)), (2, .int (tu)), (3, .int (mlB x (rA R 23) (j + 1))), (4, .int (nI (j + 1)))] (by rw [nI_1]; rfl) ?_
    exact ih (j + 1) (by omega) _ (r) (hf)
theorem w_2089 : Cond.fieldLink "LedgerFilesModel" 46 "LedgerFilesModel" "logValue" "[B" ∈ TB := tp_9 23 (by decide +kernel) rfl
set_option maxRecDepth 100000 in
set_option maxHeartbeats 4000000 in
theorem ph3 (E : gE) (f0 : Nat → va_E) (sz : Nat) (A : Nat → Prop) (Q : gQ) (hE : 94 ≤ gN E) (R : RfT) (en : Nat) (hen : en ≤ 40) (tu x : Int32) (o : Nat → Int32) (kq : ∀ g, RfV E g (setA (setS R 22 tu) 44 o) → Fr RfK f0 g → G E (6, yX12_putHead, 5, none, sz, A) cX12_putHead (gO E (6, yX12_putHead, 5, none, sz, A) Q) 148 [(0, .ref (gAd E (56))), (1, .int (nI en)), (2, .int (tu)), (3, .int (mixV x (rA R 24) (128 * en))), (4, .int (nI (128 * en)))] [] g) : ∀ (d j : Nat), j + d = 128 * en → ∀ f, RfV E f (setA (setS R 22 tu) 44 o) → Fr RfK f0 f → G E (6, yX12_putHead, 5, none, sz, A) cX12_putHead (gO E (6, yX12_putHead, 5, none, sz, A) Q) 115 [(0, .ref (gAd E (56))), (1, .int (nI en)), (2, .int (tu)), (3, .int (mixV x (rA R 24) (j))), (4, .int (nI (j)))] [] f := by
  intro d
  induction d with
  | zero =>
    intro j e f r hf
    have e : j = 128 * en := e
    refine G.go tv_X12_putHead 4 122 [(0, .ref (gAd E (56))), (1, .int (nI en)), (2, .int (tu)), (3, .int (mixV x (rA R 24) (j))), (4, .int (nI (j)))] [.int (((128 : Int32)) * (nI en)), .int (nI (j))] rfl ?_
    refine G.cmp_ge 148 (tbd tv_X12_putHead rfl) (by decide) (fun c122 => ?_) (fun c122 => absurd (by rw [show (128 : Int32) = nI 128 from rfl, pk_mul, e]; exact nI_le (Nat.le_refl _) (by omega)) c122)
    refine G.eql [(0, .ref (gAd E (56))), (1, .int (nI en)), (2, .int (tu)), (3, .int (mixV x (rA R 24) (128 * en))), (4, .int (nI (128 * en)))] (by rw [e]) ?_
    exact kq _ (by first | exact r | exact e ▸ r) (hf)
  | succ d ih =>
    intro j e f r hf
    refine G.go tv_X12_putHead 4 122 [(0, .ref (gAd E (56))), (1, .int (nI en)), (2, .int (tu)), (3, .int (mixV x (rA R 24) (j))), (4, .int (nI (j)))] [.int (((128 : Int32)) * (nI en)), .int (nI (j))] rfl ?_
    refine G.cmp_ge 148 (tbd tv_X12_putHead rfl) (by decide) (fun c122 => absurd c122 (by rw [show (128 : Int32) = nI 128 from rfl, pk_mul]; exact nI_ge (by omega) (by omega))) (fun c122 => ?_)
    refine G.go tv_X12_putHead 4 130 [(0, .ref (gAd E (56))), (1, .int (nI en)), (2, .int (tu)), (3, .int (mixV x (rA R 24) (j))), (4, .int (nI (j)))] [.ref (gAd E (56)), .int ((mixV x (rA R 24) (j)) * ((31 : Int32)))] rfl ?_
    refine G.rg r hE 24 (.ref (gAd E (65))) (by decide) rfl (tbd tv_X12_putHead rfl) w_2089 ?_
    refine G.go tv_X12_putHead 1 135 [(0, .ref (gAd E (56))), (1, .int (nI en)), (2, .int (tu)), (3, .int (mixV x (rA R 24) (j))), (4, .int (nI (j)))] [.int (nI (j)), .ref (gAd E (65)), .int ((mixV x (rA R 24) (j)) * ((31 : Int32)))] rfl ?_
    refine G.baldN (65) (j) (by omega) (r.a24) (by omega) (by decide) (tbd tv_X12_putHead rfl) ?_
    refine G.go tv_X12_putHead 6 115 [(0, .ref (gAd E (56))), (1, .int (nI en)), (2, .int (tu)), (3, .int (((mixV x (rA R 24) (j)) * ((31 : Int32))) + (((rA R 24) (j)) &&& ((255 : Int32))))), (4, .int (nI (j) + (1 : Int32)))] [] rfl ?_
    refine G.eql [(0, .ref (gAd E (56))), (1, .int (nI en)), (2, .int (tu)), (3, .int (mixV x (rA R 24) (j + 1))), (4, .int (nI (j + 1)))] (by rw [nI_1]; rfl) ?_
    exact ih (j + 1) (by omega) _ (r) (hf)
theorem w_2329 : Cond.methodLink "LedgerFilesModel" 242 yX12_set ∈ TB := tp_10 23 (by decide +kernel) rfl
theorem w_2331 : Cond.code yX12_set prog_14_method_21_code 5 none ∈ TB := tp_10 25 rfl rfl
theorem cw_X12_242 : Cw RX12 242 yX12_set cX12_set 5 none 4 := ⟨w_2329, w_2331, w_161, by decide +kernel, by decide +kernel, by decide⟩
theorem w_2330 : Cond.static yX12_set ∈ TB := tp_10 24 (by decide +kernel) rfl
theorem w_2087 : Cond.fieldLink "LedgerFilesModel" 246 "LedgerFilesModel" "turn" "I" ∈ TB := tp_9 21 (by decide +kernel) rfl
set_option maxRecDepth 100000 in
set_option maxHeartbeats 4000000 in
theorem c_X12_putHead (E : gE) (f : Nat → va_E) (R : RfT) (B : Nat) (hok : rOk R B) (hE : 94 ≤ gN E) (r : RfV E f R) (en : Nat) (hen : en ≤ 40) (tu : Int32) : Ct E 6 yX12_putHead cX12_putHead 5 none [.ref (gAd E (56)), .int (nI en), .int (tu)] f (fun v g => v = none ∧ RfV E g (rPh R en tu) ∧ Fr RfK f g, fun _ _ => False) := by
  refine Ct.of (by decide) (Nat.le_of_ble_eq_true rfl) (fun sz => ?_)
  refine G.eql [(0, .ref (gAd E (56))), (1, .int (nI en)), (2, .int (tu))] rfl ?_
  refine G.go tv_X12_putHead 2 2 [(0, .ref (gAd E (56))), (1, .int (nI en)), (2, .int (tu))] [.int (tu), .ref (gAd E (56))] rfl ?_
  refine G.rp r hE 22 (setS (R) 22 (tu)) rfl rfl (by decide) rfl rfl rfl (tbd tv_X12_putHead rfl) w_2087 (fun u1 r1 h1 => ?_)
  have ok1 : rOk (setS (R) 22 (tu)) B := rOk_22 hok
  refine G.go tv_X12_putHead 1 6 [(0, .ref (gAd E (56))), (1, .int (nI en)), (2, .int (tu))] [.ref (gAd E (56))] rfl ?_
  refine G.callV (56) [] [] (c_X12_empty E _ (setS (R) 22 (tu)) hE r1) cls_X12 (by omega) (r1.o) cw_X12_249 w_2276 w_55 (Nat.le_of_ble_eq_true rfl) rfl (Nat.le_of_ble_eq_true rfl) (tbd tv_X12_putHead rfl) (fun v1 f1 q1 => ?_) (fun _ _ h => h.elim)
  obtain ⟨rfl, ra1, fa1⟩ := q1
  refine G.eqs [] rfl ?_
  have ok2 : rOk (rEm (setS (R) 22 (tu))) B := rEm_ok ok1
  refine G.go tv_X12_putHead 1 10 [(0, .ref (gAd E (56))), (1, .int (nI en)), (2, .int (tu))] [.ref (gAd E (56))] rfl ?_
  refine G.rg ra1 hE 44 (.ref (gAd E (79))) (by decide) rfl (tbd tv_X12_putHead rfl) w_2109 ?_
  refine G.go tv_X12_putHead 3 16 [(0, .ref (gAd E (56))), (1, .int (nI en)), (2, .int (tu))] [.int (nI en), .int ((2 : Int32)), .int ((0 : Int32)), .ref (gAd E (79))] rfl ?_
  refine G.eqs [.int (nI en), .int (nI 2), .int (nI 0), .ref (gAd E (79))] rfl ?_
  refine G.callS [.ref (gAd E (79)), .int (nI 0), .int (nI 2), .int (nI en)] [] (c_X12_set E _ 79 128 (flt (rA R 44) 0 128 0) 0 2 (nI en) (by omega) (by decide) (by decide) ra1.a44) cw_X12_242 w_2330 (Nat.le_of_ble_eq_true rfl) rfl (Nat.le_of_ble_eq_true rfl) (tbd tv_X12_putHead rfl) (fun v2 f2 q2 => ?_) (fun _ _ h => h.elim)
  obtain ⟨rfl, ea2⟩ := q2
  refine G.eqs [] rfl ?_
  have ra2 : RfV E f2 (setA (rEm (setS (R) 22 (tu))) 44 (stV (flt (rA R 44) 0 128 0) 0 (nI en) 2)) := RfV.ar (ra1.p44 _) ea2
  have fa2 : Fr RfK f1 f2 := Fr.ar ⟨by decide, by decide⟩ ea2
  have ok3 : rOk (setA (rEm (setS (R) 22 (tu))) 44 (stV (flt (rA R 44) 0 128 0) 0 (nI en) 2)) B := rOk_44 ok2 (stV_b (ok2.b44) _)
  refine G.go tv_X12_putHead 1 20 [(0, .ref (gAd E (56))), (1, .int (nI en)), (2, .int (tu))] [.ref (gAd E (56))] rfl ?_
  refine G.rg ra2 hE 44 (.ref (gAd E (79))) (by decide) rfl (tbd tv_X12_putHead rfl) w_2109 ?_
  refine G.go tv_X12_putHead 3 26 [(0, .ref (gAd E (56))), (1, .int (nI en)), (2, .int (tu))] [.ref (gAd E (56)), .int ((4 : Int32)), .int ((2 : Int32)), .ref (gAd E (79))] rfl ?_
  refine G.rg ra2 hE 22 (.int (tu)) (by decide) rfl (tbd tv_X12_putHead rfl) w_2087 ?_
  refine G.eqs [.int (tu), .int (nI 4), .int (nI 2), .ref (gAd E (79))] rfl ?_
  refine G.callS [.ref (gAd E (79)), .int (nI 2), .int (nI 4), .int (tu)] [] (c_X12_set E _ 79 128 (stV (flt (rA R 44) 0 128 0) 0 (nI en) 2) 2 4 (tu) (by omega) (by decide) (by decide) ra2.a44) cw_X12_242 w_2330 (Nat.le_of_ble_eq_true rfl) rfl (Nat.le_of_ble_eq_true rfl) (tbd tv_X12_putHead rfl) (fun v3 f3 q3 => ?_) (fun _ _ h => h.elim)
  obtain ⟨rfl, ea3⟩ := q3
  refine G.eqs [] rfl ?_
  have ra3 : RfV E f3 (setA (setA (rEm (setS (R) 22 (tu))) 44 (stV (flt (rA R 44) 0 128 0) 0 (nI en) 2)) 44 (stV (stV (flt (rA R 44) 0 128 0) 0 (nI en) 2) 2 (tu) 4)) := RfV.ar (ra2.p44 _) ea3
  have fa3 : Fr RfK f2 f3 := Fr.ar ⟨by decide, by decide⟩ ea3
  have ok4 : rOk (setA (setA (rEm (setS (R) 22 (tu))) 44 (stV (flt (rA R 44) 0 128 0) 0 (nI en) 2)) 44 (stV (stV (flt (rA R 44) 0 128 0) 0 (nI en) 2) 2 (tu) 4)) B := rOk_44 ok3 (stV_b (ok3.b44) _)
  refine G.go tv_X12_putHead 4 38 [(0, .ref (gAd E (56))), (1, .int (nI en)), (2, .int (tu)), (3, .int ((7 : Int32))), (4, .int ((0 : Int32)))] [] rfl ?_
  have q1 : RfV E f3 (setA (setS R 22 tu) 44 (rHo2 R en tu)) := RfV.cast ra3 (by show setA (setA (setA (setS R 22 tu) 44 (flt (rA R 44) 0 128 0)) 44 _) 44 _ = _; rw [setA_A, setA_A]; rfl)
  have okx : rOk (setA (setS R 22 tu) 44 (rHo2 R en tu)) B := rOk_44 (rOk_22 hok) (rHo2_b hok)
  refine ph1 E f _ _ _ hE R en hen tu 7 (rHo2 R en tu) ?_ 6 0 (by omega) _ q1 ((((h1).tr fa1 (fun _ h => h)).tr fa2 (fun _ h => h)).tr fa3 (fun _ h => h))
  intro u1 r1 h1
  refine G.go tv_X12_putHead 2 71 [(0, .ref (gAd E (56))), (1, .int (nI en)), (2, .int (tu)), (3, .int (mixV 7 (rHo2 R en tu) 6)), (4, .int ((0 : Int32)))] [] rfl ?_
  refine ph2 E f _ _ _ hE R en hen tu (mixV 7 (rHo2 R en tu) 6) (rHo2 R en tu) ?_ (2 * en) 0 (by omega) _ r1 h1
  intro u2 r2 h2
  refine G.go tv_X12_putHead 2 115 [(0, .ref (gAd E (56))), (1, .int (nI en)), (2, .int (tu)), (3, .int (mlB (mixV 7 (rHo2 R en tu) 6) (rA R 23) (2 * en))), (4, .int ((0 : Int32)))] [] rfl ?_
  refine ph3 E f _ _ _ hE R en hen tu (mlB (mixV 7 (rHo2 R en tu) 6) (rA R 23) (2 * en)) (rHo2 R en tu) ?_ (128 * en) 0 (by omega) _ r2 h2
  intro u3 r3 h3
  refine G.go tv_X12_putHead 1 149 [(0, .ref (gAd E (56))), (1, .int (nI en)), (2, .int (tu)), (3, .int (mixV (mlB (mixV 7 (rHo2 R en tu) 6) (rA R 23) (2 * en)) (rA R 24) (128 * en))), (4, .int (nI (128 * en)))] [.ref (gAd E (56))] rfl ?_
  refine G.rg r3 hE 44 (.ref (gAd E (79))) (by decide) rfl (tbd tv_X12_putHead rfl) w_2109 ?_
  refine G.go tv_X12_putHead 3 156 [(0, .ref (gAd E (56))), (1, .int (nI en)), (2, .int (tu)), (3, .int (mixV (mlB (mixV 7 (rHo2 R en tu) 6) (rA R 23) (2 * en)) (rA R 24) (128 * en))), (4, .int (nI (128 * en)))] [.int (mixV (mlB (mixV 7 (rHo2 R en tu) 6) (rA R 23) (2 * en)) (rA R 24) (128 * en)), .int ((4 : Int32)), .int ((6 : Int32)), .ref (gAd E (79))] rfl ?_
  refine G.eqs [.int (mixV (mlB (mixV 7 (rHo2 R en tu) 6) (rA R 23) (2 * en)) (rA R 24) (128 * en)), .int (nI 4), .int (nI 6), .ref (gAd E (79))] rfl ?_
  refine G.callS [.ref (gAd E (79)), .int (nI 6), .int (nI 4), .int (mixV (mlB (mixV 7 (rHo2 R en tu) 6) (rA R 23) (2 * en)) (rA R 24) (128 * en))] [] (c_X12_set E _ 79 128 (rHo2 R en tu) 6 4 (mixV (mlB (mixV 7 (rHo2 R en tu) 6) (rA R 23) (2 * en)) (rA R 24) (128 * en)) (by omega) (by decide) (by decide) r3.a44) cw_X12_242 w_2330 (Nat.le_of_ble_eq_true rfl) rfl (Nat.le_of_ble_eq_true rfl) (tbd tv_X12_putHead rfl) (fun v81 f81 q81 => ?_) (fun _ _ h => h.elim)
  obtain ⟨rfl, ea81⟩ := q81
  refine G.eqs [] rfl ?_
  have ra81 : RfV E f81 (setA (setA (setS R 22 tu) 44 (rHo2 R en tu)) 44 (stV (rHo2 R en tu) 6 (mixV (mlB (mixV 7 (rHo2 R en tu) 6) (rA R 23) (2 * en)) (rA R 24) (128 * en)) 4)) := RfV.ar (r3.p44 _) ea81
  have fa81 : Fr RfK u3 f81 := Fr.ar ⟨by decide, by decide⟩ ea81
  have ok1 : rOk (setA (setA (setS R 22 tu) 44 (rHo2 R en tu)) 44 (stV (rHo2 R en tu) 6 (mixV (mlB (mixV 7 (rHo2 R en tu) 6) (rA R 23) (2 * en)) (rA R 24) (128 * en)) 4)) B := rOk_44 okx (stV_b (okx.b44) _)
  refine G.go tv_X12_putHead 3 162 [(0, .ref (gAd E (56))), (1, .int (nI en)), (2, .int (tu)), (3, .int (mixV (mlB (mixV 7 (rHo2 R en tu) 6) (rA R 23) (2 * en)) (rA R 24) (128 * en))), (4, .int (nI (128 * en)))] [.ref (gAd E (56)), .int ((1 : Int32)), .ref (gAd E (56))] rfl ?_
  refine G.rg ra81 hE 44 (.ref (gAd E (79))) (by decide) rfl (tbd tv_X12_putHead rfl) w_2109 ?_
  refine G.go tv_X12_putHead 1 166 [(0, .ref (gAd E (56))), (1, .int (nI en)), (2, .int (tu)), (3, .int (mixV (mlB (mixV 7 (rHo2 R en tu) 6) (rA R 23) (2 * en)) (rA R 24) (128 * en))), (4, .int (nI (128 * en)))] [.int ((0 : Int32)), .ref (gAd E (79)), .int ((1 : Int32)), .ref (gAd E (56))] rfl ?_
  refine G.eqs [.int (nI (0)), .ref (gAd E (79)), .int (nI (1)), .ref (gAd E (56))] rfl ?_
  refine G.callV (56) [.int (nI (1)), .ref (gAd E (79)), .int (nI (0))] [] (c_go E _ (setA (setA (setS R 22 tu) 44 (rHo2 R en tu)) 44 (stV (rHo2 R en tu) 6 (mixV (mlB (mixV 7 (rHo2 R en tu) 6) (rA R 23) (2 * en)) (rA R 24) (128 * en)) 4)) B (1) ok1 (by omega) hE ra81) cls_X12 (by omega) (ra81.o) cw_X12_252 w_2280 w_56 (Nat.le_of_ble_eq_true rfl) rfl (Nat.le_of_ble_eq_true rfl) (tbd tv_X12_putHead rfl) (fun v82 f82 q82 => ?_) (fun _ _ h => h.elim)
  obtain ⟨rfl, ra82, fa82⟩ := q82
  refine G.eqs [] rfl ?_
  have ok2 : rOk (rGo (setA (setA (setS R 22 tu) 44 (rHo2 R en tu)) 44 (stV (rHo2 R en tu) 6 (mixV (mlB (mixV 7 (rHo2 R en tu) 6) (rA R 23) (2 * en)) (rA R 24) (128 * en)) 4)) (1)) B := rGo_ok ok1 (by omega)
  exact G.vret rfl ⟨rfl, RfV.cast ra82 (by show rGo (setA (setA (setS R 22 tu) 44 _) 44 _) 1 = _; rw [setA_A]; rfl), ((h3).tr fa81 (fun _ h => h)).tr fa82 (fun _ h => h)⟩ (tbd tv_X12_putHead rfl)
def rHdO (R : RfT) : Nat → Int32 := stV (stV (stV (stV (flt (rA R 44) 0 128 0) 0 1414874188 4) 4 (rS R 1) 2) 6 40 1) 7 64 1
def rHd (R : RfT) : RfT := setA R 44 (rHdO R)
theorem rHd_ok {R : RfT} {B : Nat} (h : rOk R B) : rOk (rHd R) B := rOk_44 h (stV_b (stV_b (stV_b (stV_b (rEm_b h) _) _) _) _)
def tb_X12_head : List (Nat × Instr × Nat) := [(0, .aload_n 0, 1), (1, .invokevirtual 249, 3), (4, .aload_n 0, 1), (5, .getfield 89, 3), (8, .iconst 0, 1), (9, .iconst 4, 1), (10, .ldc_w 398, 3), (13, .invokestatic 242, 3), (16, .aload_n 0, 1), (17, .getfield 89, 3), (20, .iconst 4, 1), (21, .iconst 2, 1), (22, .aload_n 0, 1), (23, .getfield 131, 3), (26, .invokestatic 242, 3), (29, .aload_n 0, 1), (30, .getfield 89, 3), (33, .bipush 6, 2), (35, .iconst 1, 1), (36, .bipush 40, 2), (38, .invokestatic 242, 3), (41, .aload_n 0, 1), (42, .getfield 89, 3), (45, .bipush 7, 2), (47, .iconst 1, 1), (48, .bipush 64, 2), (50, .invokestatic 242, 3), (53, .return_, 1)]
theorem tv_X12_head : Tv cX12_head tb_X12_head := by
  unfold Tv
  decide +kernel
theorem w_2336 : Cond.constant "LedgerFilesModel" 398 (1414874188 : Int32) ∈ TB := tp_10 30 (by decide +kernel) rfl
set_option maxRecDepth 100000 in
set_option maxHeartbeats 4000000 in
theorem c_X12_head (E : gE) (f : Nat → va_E) (R : RfT) (B : Nat) (hok : rOk R B) (hE : 94 ≤ gN E) (r : RfV E f R) : Ct E 2 yX12_head cX12_head 1 none [.ref (gAd E (56))] f (fun v g => v = none ∧ RfV E g (rHd R) ∧ Fr RfK f g, fun _ _ => False) := by
  refine Ct.of (by decide) (Nat.le_of_ble_eq_true rfl) (fun sz => ?_)
  refine G.eql [(0, .ref (gAd E (56)))] rfl ?_
  refine G.go tv_X12_head 1 1 [(0, .ref (gAd E (56)))] [.ref (gAd E (56))] rfl ?_
  refine G.callV (56) [] [] (c_X12_empty E _ (R) hE r) cls_X12 (by omega) (r.o) cw_X12_249 w_2276 w_55 (Nat.le_of_ble_eq_true rfl) rfl (Nat.le_of_ble_eq_true rfl) (tbd tv_X12_head rfl) (fun v1 f1 q1 => ?_) (fun _ _ h => h.elim)
  obtain ⟨rfl, ra1, fa1⟩ := q1
  refine G.eqs [] rfl ?_
  have ok1 : rOk (rEm (R)) B := rEm_ok hok
  refine G.go tv_X12_head 1 5 [(0, .ref (gAd E (56)))] [.ref (gAd E (56))] rfl ?_
  refine G.rg ra1 hE 44 (.ref (gAd E (79))) (by decide) rfl (tbd tv_X12_head rfl) w_2109 ?_
  refine G.go tv_X12_head 2 10 [(0, .ref (gAd E (56)))] [.int ((4 : Int32)), .int ((0 : Int32)), .ref (gAd E (79))] rfl ?_
  refine G.ldcw (1414874188) (tbd tv_X12_head rfl) w_2336 ?_
  refine G.eqs [.int ((1414874188 : Int32)), .int (nI 4), .int (nI 0), .ref (gAd E (79))] rfl ?_
  refine G.callS [.ref (gAd E (79)), .int (nI 0), .int (nI 4), .int ((1414874188 : Int32))] [] (c_X12_set E _ 79 128 (flt (rA R 44) 0 128 0) 0 4 ((1414874188 : Int32)) (by omega) (by decide) (by decide) ra1.a44) cw_X12_242 w_2330 (Nat.le_of_ble_eq_true rfl) rfl (Nat.le_of_ble_eq_true rfl) (tbd tv_X12_head rfl) (fun v2 f2 q2 => ?_) (fun _ _ h => h.elim)
  obtain ⟨rfl, ea2⟩ := q2
  refine G.eqs [] rfl ?_
  have ra2 : RfV E f2 (setA (rEm (R)) 44 (stV (flt (rA R 44) 0 128 0) 0 ((1414874188 : Int32)) 4)) := RfV.ar (ra1.p44 _) ea2
  have fa2 : Fr RfK f1 f2 := Fr.ar ⟨by decide, by decide⟩ ea2
  have ok2 : rOk (setA (rEm (R)) 44 (stV (flt (rA R 44) 0 128 0) 0 ((1414874188 : Int32)) 4)) B := rOk_44 ok1 (stV_b (ok1.b44) _)
  refine G.go tv_X12_head 1 17 [(0, .ref (gAd E (56)))] [.ref (gAd E (56))] rfl ?_
  refine G.rg ra2 hE 44 (.ref (gAd E (79))) (by decide) rfl (tbd tv_X12_head rfl) w_2109 ?_
  refine G.go tv_X12_head 3 23 [(0, .ref (gAd E (56)))] [.ref (gAd E (56)), .int ((2 : Int32)), .int ((4 : Int32)), .ref (gAd E (79))] rfl ?_
  refine G.rg ra2 hE 1 (.int (rS R 1)) (by decide) rfl (tbd tv_X12_head rfl) w_2066 ?_
  refine G.eqs [.int (rS R 1), .int (nI 2), .int (nI 4), .ref (gAd E (79))] rfl ?_
  refine G.callS [.ref (gAd E (79)), .int (nI 4), .int (nI 2), .int (rS R 1)] [] (c_X12_set E _ 79 128 (stV (flt (rA R 44) 0 128 0) 0 ((1414874188 : Int32)) 4) 4 2 (rS R 1) (by omega) (by decide) (by decide) ra2.a44) cw_X12_242 w_2330 (Nat.le_of_ble_eq_true rfl) rfl (Nat.le_of_ble_eq_true rfl) (tbd tv_X12_head rfl) (fun v3 f3 q3 => ?_) (fun _ _ h => h.elim)
  obtain ⟨rfl, ea3⟩ := q3
  refine G.eqs [] rfl ?_
  have ra3 : RfV E f3 (setA (setA (rEm (R)) 44 (stV (flt (rA R 44) 0 128 0) 0 ((1414874188 : Int32)) 4)) 44 (stV (stV (flt (rA R 44) 0 128 0) 0 ((1414874188 : Int32)) 4) 4 (rS R 1) 2)) := RfV.ar (ra2.p44 _) ea3
  have fa3 : Fr RfK f2 f3 := Fr.ar ⟨by decide, by decide⟩ ea3
  have ok3 : rOk (setA (setA (rEm (R)) 44 (stV (flt (rA R 44) 0 128 0) 0 ((1414874188 : Int32)) 4)) 44 (stV (stV (flt (rA R 44) 0 128 0) 0 ((1414874188 : Int32)) 4) 4 (rS R 1) 2)) B := rOk_44 ok2 (stV_b (ok2.b44) _)
  refine G.go tv_X12_head 1 30 [(0, .ref (gAd E (56)))] [.ref (gAd E (56))] rfl ?_
  refine G.rg ra3 hE 44 (.ref (gAd E (79))) (by decide) rfl (tbd tv_X12_head rfl) w_2109 ?_
  refine G.go tv_X12_head 3 38 [(0, .ref (gAd E (56)))] [.int ((40 : Int32)), .int ((1 : Int32)), .int ((6 : Int32)), .ref (gAd E (79))] rfl ?_
  refine G.eqs [.int ((40 : Int32)), .int (nI 1), .int (nI 6), .ref (gAd E (79))] rfl ?_
  refine G.callS [.ref (gAd E (79)), .int (nI 6), .int (nI 1), .int ((40 : Int32))] [] (c_X12_set E _ 79 128 (stV (stV (flt (rA R 44) 0 128 0) 0 ((1414874188 : Int32)) 4) 4 (rS R 1) 2) 6 1 ((40 : Int32)) (by omega) (by decide) (by decide) ra3.a44) cw_X12_242 w_2330 (Nat.le_of_ble_eq_true rfl) rfl (Nat.le_of_ble_eq_true rfl) (tbd tv_X12_head rfl) (fun v4 f4 q4 => ?_) (fun _ _ h => h.elim)
  obtain ⟨rfl, ea4⟩ := q4
  refine G.eqs [] rfl ?_
  have ra4 : RfV E f4 (setA (setA (setA (rEm (R)) 44 (stV (flt (rA R 44) 0 128 0) 0 ((1414874188 : Int32)) 4)) 44 (stV (stV (flt (rA R 44) 0 128 0) 0 ((1414874188 : Int32)) 4) 4 (rS R 1) 2)) 44 (stV (stV (stV (flt (rA R 44) 0 128 0) 0 ((1414874188 : Int32)) 4) 4 (rS R 1) 2) 6 ((40 : Int32)) 1)) := RfV.ar (ra3.p44 _) ea4
  have fa4 : Fr RfK f3 f4 := Fr.ar ⟨by decide, by decide⟩ ea4
  have ok4 : rOk (setA (setA (setA (rEm (R)) 44 (stV (flt (rA R 44) 0 128 0) 0 ((1414874188 : Int32)) 4)) 44 (stV (stV (flt (rA R 44) 0 128 0) 0 ((1414874188 : Int32)) 4) 4 (rS R 1) 2)) 44 (stV (stV (stV (flt (rA R 44) 0 128 0) 0 ((1414874188 : Int32)) 4) 4 (rS R 1) 2) 6 ((40 : Int32)) 1)) B := rOk_44 ok3 (stV_b (ok3.b44) _)
  refine G.go tv_X12_head 1 42 [(0, .ref (gAd E (56)))] [.ref (gAd E (56))] rfl ?_
  refine G.rg ra4 hE 44 (.ref (gAd E (79))) (by decide) rfl (tbd tv_X12_head rfl) w_2109 ?_
  refine G.go tv_X12_head 3 50 [(0, .ref (gAd E (56)))] [.int ((64 : Int32)), .int ((1 : Int32)), .int ((7 : Int32)), .ref (gAd E (79))] rfl ?_
  refine G.eqs [.int ((64 : Int32)), .int (nI 1), .int (nI 7), .ref (gAd E (79))] rfl ?_
  refine G.callS [.ref (gAd E (79)), .int (nI 7), .int (nI 1), .int ((64 : Int32))] [] (c_X12_set E _ 79 128 (stV (stV (stV (flt (rA R 44) 0 128 0) 0 ((1414874188 : Int32)) 4) 4 (rS R 1) 2) 6 ((40 : Int32)) 1) 7 1 ((64 : Int32)) (by omega) (by decide) (by decide) ra4.a44) cw_X12_242 w_2330 (Nat.le_of_ble_eq_true rfl) rfl (Nat.le_of_ble_eq_true rfl) (tbd tv_X12_head rfl) (fun v5 f5 q5 => ?_) (fun _ _ h => h.elim)
  obtain ⟨rfl, ea5⟩ := q5
  refine G.eqs [] rfl ?_
  have ra5 : RfV E f5 (setA (setA (setA (setA (rEm (R)) 44 (stV (flt (rA R 44) 0 128 0) 0 ((1414874188 : Int32)) 4)) 44 (stV (stV (flt (rA R 44) 0 128 0) 0 ((1414874188 : Int32)) 4) 4 (rS R 1) 2)) 44 (stV (stV (stV (flt (rA R 44) 0 128 0) 0 ((1414874188 : Int32)) 4) 4 (rS R 1) 2) 6 ((40 : Int32)) 1)) 44 (stV (stV (stV (stV (flt (rA R 44) 0 128 0) 0 ((1414874188 : Int32)) 4) 4 (rS R 1) 2) 6 ((40 : Int32)) 1) 7 ((64 : Int32)) 1)) := RfV.ar (ra4.p44 _) ea5
  have fa5 : Fr RfK f4 f5 := Fr.ar ⟨by decide, by decide⟩ ea5
  have ok5 : rOk (setA (setA (setA (setA (rEm (R)) 44 (stV (flt (rA R 44) 0 128 0) 0 ((1414874188 : Int32)) 4)) 44 (stV (stV (flt (rA R 44) 0 128 0) 0 ((1414874188 : Int32)) 4) 4 (rS R 1) 2)) 44 (stV (stV (stV (flt (rA R 44) 0 128 0) 0 ((1414874188 : Int32)) 4) 4 (rS R 1) 2) 6 ((40 : Int32)) 1)) 44 (stV (stV (stV (stV (flt (rA R 44) 0 128 0) 0 ((1414874188 : Int32)) 4) 4 (rS R 1) 2) 6 ((40 : Int32)) 1) 7 ((64 : Int32)) 1)) B := rOk_44 ok4 (stV_b (ok4.b44) _)
  exact G.vret rfl ⟨rfl, RfV.cast ra5 (by show setA (setA (setA (setA (setA R 44 _) 44 _) 44 _) 44 _) 44 _ = _; rw [setA_A, setA_A, setA_A, setA_A]; rfl), ((((fa1).tr fa2 (fun _ h => h)).tr fa3 (fun _ h => h)).tr fa4 (fun _ h => h)).tr fa5 (fun _ h => h)⟩ (tbd tv_X12_head rfl)
/-- 1 if the first n bytes are the same, else 0 -/
def smV (x y : Nat → Int32) (a b : Nat) : Nat → Int32
  | 0 => 1
  | k + 1 => if smV x y a b k = 0 then 0 else if x (a + k) = y (b + k) then 1 else 0
theorem smV_01 (x y : Nat → Int32) (a b : Nat) : ∀ k, smV x y a b k = 0 ∨ smV x y a b k = 1
  | 0 => Or.inr rfl
  | k + 1 => by
    unfold smV
    split
    · exact Or.inl rfl
    · split
      · exact Or.inr rfl
      · exact Or.inl rfl
theorem smV_at {x y : Nat → Int32} {a b i : Nat} (h : ¬ x (a + i) = y (b + i)) : ∀ k, i < k → smV x y a b k = 0
  | 0, hk => absurd hk (by omega)
  | k + 1, hk => by
    unfold smV
    by_cases e : i = k
    · rw [← e, if_neg h]
      split <;> rfl
    · rw [if_pos (smV_at h k (by omega))]
def tb_X12_same : List (Nat × Instr × Nat) := [(0, .iconst 1, 1), (1, .istore 4, 2), (3, .iconst 0, 1), (4, .istore 5, 2), (6, .iload 5, 2), (8, .sipush 128, 3), (11, .if_icmp .ge 36, 3), (14, .iload 4, 2), (16, .ifCond .eq 22, 3), (19, .aload_n 0, 1), (20, .iload_n 1, 1), (21, .iload 5, 2), (23, .iadd, 1), (24, .baload, 1), (25, .aload_n 2, 1), (26, .iload_n 3, 1), (27, .iload 5, 2), (29, .iadd, 1), (30, .baload, 1), (31, .if_icmp .ne 7, 3), (34, .iconst 1, 1), (35, .goto 4, 3), (38, .iconst 0, 1), (39, .istore 4, 2), (41, .iinc 5 1, 3), (44, .goto (-38), 3), (47, .iload 4, 2), (49, .ireturn, 1)]
theorem tv_X12_same : Tv cX12_same tb_X12_same := by
  unfold Tv
  decide +kernel
set_option maxRecDepth 100000 in
set_option maxHeartbeats 4000000 in
theorem rsm_loop (E : gE) (f : Nat → va_E) (sz : Nat) (A : Nat → Prop) (Q : gQ) (ka na kb nb : Nat) (x y : Nat → Int32) (a b : Nat) (hka : ka < gN E) (hkb : kb < gN E) (hea : f ka = oB (gDA E) na x) (heb : f kb = oB (gDA E) nb y) (hna : na < 2 ^ 31) (hnb : nb < 2 ^ 31) (ha : a + 128 ≤ na) (hb : b + 128 ≤ nb) (hq : Q.1 (some (.int (smV x y a b 128))) f) : ∀ (d j : Nat), j + d = 128 → G E (1, yX12_same, 6, (some .boolean), sz, A) cX12_same (gO E (1, yX12_same, 6, (some .boolean), sz, A) Q) 6 [(0, .ref (gAd E (ka))), (1, .int (nI a)), (2, .ref (gAd E (kb))), (3, .int (nI b)), (4, .int (smV x y a b (j))), (5, .int (nI (j)))] [] f := by
  intro d
  induction d with
  | zero =>
    intro j e
    have e : j = 128 := e
    have hq : Q.1 (some (.int (smV x y a b j))) f := by rw [e]; exact hq
    refine G.go tv_X12_same 2 11 [(0, .ref (gAd E (ka))), (1, .int (nI a)), (2, .ref (gAd E (kb))), (3, .int (nI b)), (4, .int (smV x y a b (j))), (5, .int (nI (j)))] [.int ((128 : Int32)), .int (nI (j))] rfl ?_
    refine G.cmp_ge 47 (tbd tv_X12_same rfl) (by decide) (fun c11 => ?_) (fun c11 => absurd (by rw [e]; exact (nI_le (Nat.le_refl _) (by omega) : nI 128 ≤ nI 128)) c11)
    refine G.go tv_X12_same 1 49 [(0, .ref (gAd E (ka))), (1, .int (nI a)), (2, .ref (gAd E (kb))), (3, .int (nI b)), (4, .int (smV x y a b (j))), (5, .int (nI (j)))] [.int (smV x y a b (j))] rfl ?_
    exact G.iret rfl (by rcases smV_01 x y a b j with q | q <;> rw [q] <;> rfl) hq (tbd tv_X12_same rfl)
  | succ d ih =>
    intro j e
    refine G.go tv_X12_same 2 11 [(0, .ref (gAd E (ka))), (1, .int (nI a)), (2, .ref (gAd E (kb))), (3, .int (nI b)), (4, .int (smV x y a b (j))), (5, .int (nI (j)))] [.int ((128 : Int32)), .int (nI (j))] rfl ?_
    refine G.cmp_ge 47 (tbd tv_X12_same rfl) (by decide) (fun c11 => absurd c11 ((nI_ge (by omega) (by omega) : ¬ nI 128 ≤ nI j))) (fun c11 => ?_)
    refine G.go tv_X12_same 1 16 [(0, .ref (gAd E (ka))), (1, .int (nI a)), (2, .ref (gAd E (kb))), (3, .int (nI b)), (4, .int (smV x y a b (j))), (5, .int (nI (j)))] [.int (smV x y a b (j))] rfl ?_
    refine G.if_eq 38 (tbd tv_X12_same rfl) (by decide) (fun c16 => ?_) (fun c16 => ?_)
    · skip
      refine G.go tv_X12_same 4 6 [(0, .ref (gAd E (ka))), (1, .int (nI a)), (2, .ref (gAd E (kb))), (3, .int (nI b)), (4, .int ((0 : Int32))), (5, .int (nI (j) + (1 : Int32)))] [] rfl ?_
      refine G.eql [(0, .ref (gAd E (ka))), (1, .int (nI a)), (2, .ref (gAd E (kb))), (3, .int (nI b)), (4, .int (smV x y a b (j + 1))), (5, .int (nI (j + 1)))] (by rw [nI_1]; first | rw [show smV x y a b (j + 1) = 0 from by unfold smV; rw [if_pos c16]] | rw [show smV x y a b (j + 1) = 1 from by unfold smV; rw [if_neg c16, if_pos c31]] | rw [show smV x y a b (j + 1) = 0 from by unfold smV; rw [if_neg c16, if_neg c31]]) ?_
      exact ih (j + 1) (by omega)
    · skip
      refine G.go tv_X12_same 4 24 [(0, .ref (gAd E (ka))), (1, .int (nI a)), (2, .ref (gAd E (kb))), (3, .int (nI b)), (4, .int (smV x y a b (j))), (5, .int (nI (j)))] [.int ((nI a) + (nI (j))), .ref (gAd E (ka))] rfl ?_
      refine G.eqs [.int (nI (a + j)), .ref (gAd E (ka))] (by rw [nI_add]) ?_
      refine G.baldN (ka) (a + j) hka (hea) (by omega) (hna) (tbd tv_X12_same rfl) ?_
      refine G.go tv_X12_same 4 30 [(0, .ref (gAd E (ka))), (1, .int (nI a)), (2, .ref (gAd E (kb))), (3, .int (nI b)), (4, .int (smV x y a b (j))), (5, .int (nI (j)))] [.int ((nI b) + (nI (j))), .ref (gAd E (kb)), .int ((x) (a + j))] rfl ?_
      refine G.eqs [.int (nI (b + j)), .ref (gAd E (kb)), .int ((x) (a + j))] (by rw [nI_add]) ?_
      refine G.baldN (kb) (b + j) hkb (heb) (by omega) (hnb) (tbd tv_X12_same rfl) ?_
      refine G.cmp_ne 38 (tbd tv_X12_same rfl) (by decide) (fun c31 => ?_) (fun c31 => ?_)
      · skip
        refine G.go tv_X12_same 4 6 [(0, .ref (gAd E (ka))), (1, .int (nI a)), (2, .ref (gAd E (kb))), (3, .int (nI b)), (4, .int ((0 : Int32))), (5, .int (nI (j) + (1 : Int32)))] [] rfl ?_
        refine G.eql [(0, .ref (gAd E (ka))), (1, .int (nI a)), (2, .ref (gAd E (kb))), (3, .int (nI b)), (4, .int (smV x y a b (j + 1))), (5, .int (nI (j + 1)))] (by rw [nI_1]; first | rw [show smV x y a b (j + 1) = 0 from by unfold smV; rw [if_pos c16]] | rw [show smV x y a b (j + 1) = 1 from by unfold smV; rw [if_neg c16, if_pos c31]] | rw [show smV x y a b (j + 1) = 0 from by unfold smV; rw [if_neg c16, if_neg c31]]) ?_
        exact ih (j + 1) (by omega)
      · skip
        refine G.go tv_X12_same 5 6 [(0, .ref (gAd E (ka))), (1, .int (nI a)), (2, .ref (gAd E (kb))), (3, .int (nI b)), (4, .int ((1 : Int32))), (5, .int (nI (j) + (1 : Int32)))] [] rfl ?_
        refine G.eql [(0, .ref (gAd E (ka))), (1, .int (nI a)), (2, .ref (gAd E (kb))), (3, .int (nI b)), (4, .int (smV x y a b (j + 1))), (5, .int (nI (j + 1)))] (by rw [nI_1]; first | rw [show smV x y a b (j + 1) = 0 from by unfold smV; rw [if_pos c16]] | rw [show smV x y a b (j + 1) = 1 from by unfold smV; rw [if_neg c16, if_pos c31]] | rw [show smV x y a b (j + 1) = 0 from by unfold smV; rw [if_neg c16, if_neg c31]]) ?_
        exact ih (j + 1) (by omega)
set_option maxRecDepth 100000 in
set_option maxHeartbeats 4000000 in
theorem c_X12_same (E : gE) (f : Nat → va_E) (ka na kb nb : Nat) (x y : Nat → Int32) (a b : Nat) (hka : ka < gN E) (hkb : kb < gN E) (hea : f ka = oB (gDA E) na x) (heb : f kb = oB (gDA E) nb y) (hna : na < 2 ^ 31) (hnb : nb < 2 ^ 31) (ha : a + 128 ≤ na) (hb : b + 128 ≤ nb) : Ct E 1 yX12_same cX12_same 6 (some .boolean) [.ref (gAd E (ka)), .int (nI a), .ref (gAd E (kb)), .int (nI b)] f (fun r h => f = h ∧ r = some (.int (smV x y a b 128)), fun _ _ => False) := by
  refine Ct.of (by decide) (Nat.le_of_ble_eq_true rfl) (fun sz => ?_)
  refine G.eql [(0, .ref (gAd E (ka))), (1, .int (nI a)), (2, .ref (gAd E (kb))), (3, .int (nI b))] rfl ?_
  refine G.go tv_X12_same 4 6 [(0, .ref (gAd E (ka))), (1, .int (nI a)), (2, .ref (gAd E (kb))), (3, .int (nI b)), (4, .int ((1 : Int32))), (5, .int ((0 : Int32)))] [] rfl ?_
  refine rsm_loop E f _ _ _ ka na kb nb x y a b hka hkb hea heb hna hnb ha hb ?_ 128 0 (by omega)
  exact ⟨rfl, rfl⟩
