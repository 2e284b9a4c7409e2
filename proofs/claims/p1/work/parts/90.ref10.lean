/-- the bits of the blocks that are used at first -/
def fmBt (g : Nat → Int32) (N : Nat) : Nat → Nat → Int32
  | 0 => g
  | k + 1 => if k < 61 ∨ N ≤ k then upd (fmBt g N k) (k / 8) (vp_nar .byte ((((fmBt g N k) (k / 8)) ||| (((1 : Int32)) <<< ((nI (k % 8)) &&& 31)) : Int32).toInt8.toInt32)) else fmBt g N k
theorem fmBt_b {g : Nat → Int32} {N : Nat} (h : Byt g) : ∀ k, Byt (fmBt g N k)
  | 0 => h
  | k + 1 => by
    unfold fmBt
    split
    · exact (fmBt_b h k).upd8
    · exact fmBt_b h k
theorem fmBt_y {g : Nat → Int32} {N k : Nat} (h : k < 61 ∨ N ≤ k) : fmBt g N (k + 1) = upd (fmBt g N k) (k / 8) (vp_nar .byte ((((fmBt g N k) (k / 8)) ||| (((1 : Int32)) <<< ((nI (k % 8)) &&& 31)) : Int32).toInt8.toInt32)) := (show fmBt g N (k + 1) = (if k < 61 ∨ N ≤ k then upd (fmBt g N k) (k / 8) (vp_nar .byte ((((fmBt g N k) (k / 8)) ||| (((1 : Int32)) <<< ((nI (k % 8)) &&& 31)) : Int32).toInt8.toInt32)) else fmBt g N k) from rfl).trans (if_pos h)
theorem fmBt_n {g : Nat → Int32} {N k : Nat} (h : ¬ (k < 61 ∨ N ≤ k)) : fmBt g N (k + 1) = fmBt g N k := (show fmBt g N (k + 1) = (if k < 61 ∨ N ≤ k then upd (fmBt g N k) (k / 8) (vp_nar .byte ((((fmBt g N k) (k / 8)) ||| (((1 : Int32)) <<< ((nI (k % 8)) &&& 31)) : Int32).toInt8.toInt32)) else fmBt g N k) from rfl).trans (if_neg h)
def fmA (X : RfT) (N : Nat) : RfT := setA X 44 (fmBt (flt (rA X 44) 0 128 0) N 1024)
def fmC1 (X : RfT) : RfT := setA X 44 (upd (flt (rA X 44) 0 128 0) 0 (vp_nar .byte (1 : Int32)))
def fmC2 (X : RfT) : RfT := setA X 44 (upd (upd (flt (rA X 44) 0 128 0) 0 (vp_nar .byte (2 : Int32))) 1 (vp_nar .byte (1 : Int32)))
def fmC (X : RfT) : RfT := rGo (fmC2 (rGo (fmC1 (rGo X 43)) 44)) 45
theorem fmA_ok {X : RfT} {B N : Nat} (h : rOk X B) : rOk (fmA X N) B := rOk_44 h (fmBt_b (rEm_b h) _)
theorem fmC1_ok {X : RfT} {B : Nat} (h : rOk X B) : rOk (fmC1 X) B := rOk_44 h (rEm_b h).upd8
theorem fmC2_ok {X : RfT} {B : Nat} (h : rOk X B) : rOk (fmC2 X) B := rOk_44 h (rEm_b h).upd8.upd8
theorem fmC_ok {X : RfT} {B : Nat} (h : rOk X B) : rOk (fmC X) B := rGo_ok (fmC2_ok (rGo_ok (fmC1_ok (rGo_ok h (by decide))) (by decide))) (by decide)
def rPzs (X : RfT) : Nat → RfT
  | 0 => X
  | j + 1 => rPz (rPzs X j) (46 + j)
theorem rPzs_ok {X : RfT} {B : Nat} (h : rOk X B) : ∀ j, j ≤ 100 → rOk (rPzs X j) B
  | 0, _ => h
  | j + 1, hj => rPz_ok (rPzs_ok h j (by omega)) (by omega)
def fmE1 (X : RfT) : RfT := if rS X 11 = 0 then X else rSett X
def fmE2 (X : RfT) : RfT := if rS X 11 = 0 then X else rGo (rHd X) 0
theorem fmE1_ok {X : RfT} {B : Nat} (h : rOk X B) : rOk (fmE1 X) B := by
  unfold fmE1
  split
  · exact h
  · exact rSett_ok h
theorem fmE2_ok {X : RfT} {B : Nat} (h : rOk X B) : rOk (fmE2 X) B := by
  unfold fmE2
  split
  · exact h
  · exact rGo_ok (rHd_ok h) (by decide)
def fmF (X : RfT) (N : Nat) : RfT := if rS X 11 = 0 then X else rPzs (fmC (fmA (rPh X 0 0) N)) 15
def fmZ (R : RfT) (N : Nat) : RfT := fmE1 (fmE2 (fmE1 (fmF (rSett (rPz (setS R 0 0) 0)) N)))
def rFmt (R : RfT) (N : Nat) : RfT := setS (fmZ R N) 0 (if rS (fmZ R N) 11 = 0 then 2 else 0)
def tb_X12_format : List (Nat × Instr × Nat) := [(0, .aload_n 0, 1), (1, .aload_n 0, 1), (2, .getfield 156, 3), (5, .ifCond .ne 10, 3), (8, .aload_n 0, 1), (9, .getfield 25, 3), (12, .ifCond .ne 7, 3), (15, .iconst 1, 1), (16, .goto 4, 3), (19, .iconst 0, 1), (20, .iconst 1, 1), (21, .invokevirtual 385, 3), (24, .ifCond .eq 5, 3), (27, .iconst 0, 1), (28, .ireturn, 1), (29, .aload_n 0, 1), (30, .iconst 0, 1), (31, .invokevirtual 392, 3), (34, .aload_n 0, 1), (35, .invokevirtual 255, 3), (38, .aload_n 0, 1), (39, .getfield 25, 3), (42, .ifCond .eq 150, 3), (45, .aload_n 0, 1), (46, .iconst 0, 1), (47, .iconst 0, 1), (48, .invokevirtual 258, 3), (51, .aload_n 0, 1), (52, .invokevirtual 249, 3), (55, .iconst 0, 1), (56, .istore_n 1, 1), (57, .iload_n 1, 1), (58, .sipush 1024, 3), (61, .if_icmp .ge 49, 3), (64, .iload_n 1, 1), (65, .bipush 61, 2), (67, .if_icmp .lt 11, 3), (70, .iload_n 1, 1), (71, .aload_n 0, 1), (72, .getfield 131, 3), (75, .if_icmp .lt 29, 3), (78, .aload_n 0, 1), (79, .getfield 89, 3), (82, .iload_n 1, 1), (83, .bipush 8, 2), (85, .idiv, 1), (86, .aload_n 0, 1), (87, .getfield 89, 3), (90, .iload_n 1, 1), (91, .bipush 8, 2), (93, .idiv, 1), (94, .baload, 1), (95, .iconst 1, 1), (96, .iload_n 1, 1), (97, .bipush 8, 2), (99, .irem, 1), (100, .ishl, 1), (101, .ior, 1), (102, .i2b, 1), (103, .bastore, 1), (104, .iinc 1 1, 3), (107, .goto (-50), 3), (110, .aload_n 0, 1), (111, .bipush 43, 2), (113, .aload_n 0, 1), (114, .getfield 89, 3), (117, .iconst 0, 1), (118, .invokevirtual 252, 3), (121, .aload_n 0, 1), (122, .invokevirtual 249, 3), (125, .aload_n 0, 1), (126, .getfield 89, 3), (129, .iconst 0, 1), (130, .iconst 1, 1), (131, .bastore, 1), (132, .aload_n 0, 1), (133, .bipush 44, 2), (135, .aload_n 0, 1), (136, .getfield 89, 3), (139, .iconst 0, 1), (140, .invokevirtual 252, 3), (143, .aload_n 0, 1), (144, .invokevirtual 249, 3), (147, .aload_n 0, 1), (148, .getfield 89, 3), (151, .iconst 0, 1), (152, .iconst 2, 1), (153, .bastore, 1), (154, .aload_n 0, 1), (155, .getfield 89, 3), (158, .iconst 1, 1), (159, .iconst 1, 1), (160, .bastore, 1), (161, .aload_n 0, 1), (162, .bipush 45, 2), (164, .aload_n 0, 1), (165, .getfield 89, 3), (168, .iconst 0, 1), (169, .invokevirtual 252, 3), (172, .bipush 46, 2), (174, .istore_n 1, 1), (175, .iload_n 1, 1), (176, .bipush 61, 2), (178, .if_icmp .ge 14, 3), (181, .aload_n 0, 1), (182, .iload_n 1, 1), (183, .invokevirtual 392, 3), (186, .iinc 1 1, 3), (189, .goto (-14), 3), (192, .aload_n 0, 1), (193, .getfield 25, 3), (196, .ifCond .eq 7, 3), (199, .aload_n 0, 1), (200, .invokevirtual 255, 3), (203, .aload_n 0, 1), (204, .getfield 25, 3), (207, .ifCond .eq 17, 3), (210, .aload_n 0, 1), (211, .invokevirtual 395, 3), (214, .aload_n 0, 1), (215, .iconst 0, 1), (216, .aload_n 0, 1), (217, .getfield 89, 3), (220, .iconst 0, 1), (221, .invokevirtual 252, 3), (224, .aload_n 0, 1), (225, .getfield 25, 3), (228, .ifCond .eq 7, 3), (231, .aload_n 0, 1), (232, .invokevirtual 255, 3), (235, .aload_n 0, 1), (236, .aload_n 0, 1), (237, .getfield 131, 3), (240, .bipush 61, 2), (242, .isub, 1), (243, .invokevirtual 389, 3), (246, .ireturn, 1)]
theorem tv_X12_format : Tv cX12_format tb_X12_format := by
  unfold Tv
  decide +kernel
set_option maxRecDepth 100000 in
set_option maxHeartbeats 4000000 in
theorem fm_b (E : gE) (f0 : Nat → va_E) (sz : Nat) (A : Nat → Prop) (Q : gQ) (hE : 94 ≤ gN E) (X : RfT) (o : Nat → Int32) (N : Nat) (hN : rS X 1 = nI N) (hN2 : N ≤ 1024) (kq : ∀ g, RfV E g (setA X 44 (fmBt o N (1024))) → Fr RfK f0 g → G E (7, yX12_format, 2, (some .int), sz, A) cX12_format (gO E (7, yX12_format, 2, (some .int), sz, A) Q) 110 [(0, .ref (gAd E (56))), (1, .int (nI (1024)))] [] g) : ∀ (d j : Nat), j + d = 1024 → ∀ f, RfV E f (setA X 44 (fmBt o N (j))) → Fr RfK f0 f → G E (7, yX12_format, 2, (some .int), sz, A) cX12_format (gO E (7, yX12_format, 2, (some .int), sz, A) Q) 57 [(0, .ref (gAd E (56))), (1, .int (nI (j)))] [] f := by
  intro d
  induction d with
  | zero =>
    intro j e f r hf
    have e : j = 1024 := e
    refine G.go tv_X12_format 2 61 [(0, .ref (gAd E (56))), (1, .int (nI (j)))] [.int ((1024 : Int32)), .int (nI (j))] rfl ?_
    refine G.cmp_ge 110 (tbd tv_X12_format rfl) (by decide) (fun c61 => ?_) (fun c61 => absurd (by rw [e]; exact (nI_le (Nat.le_refl _) (by omega) : nI 1024 ≤ nI 1024)) c61)
    refine G.eql [(0, .ref (gAd E (56))), (1, .int (nI (1024)))] (by rw [e]) ?_
    exact kq _ (by first | exact r | exact e ▸ r) (hf)
  | succ d ih =>
    intro j e f r hf
    refine G.go tv_X12_format 2 61 [(0, .ref (gAd E (56))), (1, .int (nI (j)))] [.int ((1024 : Int32)), .int (nI (j))] rfl ?_
    refine G.cmp_ge 110 (tbd tv_X12_format rfl) (by decide) (fun c61 => absurd c61 ((nI_ge (by omega) (by omega) : ¬ nI 1024 ≤ nI j))) (fun c61 => ?_)
    refine G.go tv_X12_format 2 67 [(0, .ref (gAd E (56))), (1, .int (nI (j)))] [.int ((61 : Int32)), .int (nI (j))] rfl ?_
    refine G.cmp_lt 78 (tbd tv_X12_format rfl) (by decide) (fun c67 => ?_) (fun c67 => ?_)
    · skip
      have hk : j < 61 ∨ N ≤ j := Or.inl ((nI_ltI (by omega) (by omega) : nI j < nI 61 ↔ j < 61).mp c67)
      refine G.go tv_X12_format 1 79 [(0, .ref (gAd E (56))), (1, .int (nI (j)))] [.ref (gAd E (56))] rfl ?_
      refine G.rg r hE 44 (.ref (gAd E (79))) (by decide) rfl (tbd tv_X12_format rfl) w_2109 ?_
      refine G.go tv_X12_format 2 85 [(0, .ref (gAd E (56))), (1, .int (nI (j)))] [.int ((8 : Int32)), .int (nI (j)), .ref (gAd E (79))] rfl ?_
      refine G.idiv (by decide) (tbd tv_X12_format rfl) ?_
      refine G.eqs [.int (nI (j / 8)), .ref (gAd E (79))] (by rw [show (8 : Int32) = nI 8 from rfl, pk_div (by omega) (by omega) (by omega)]) ?_
      refine G.go tv_X12_format 1 87 [(0, .ref (gAd E (56))), (1, .int (nI (j)))] [.ref (gAd E (56)), .int (nI (j / 8)), .ref (gAd E (79))] rfl ?_
      refine G.rg r hE 44 (.ref (gAd E (79))) (by decide) rfl (tbd tv_X12_format rfl) w_2109 ?_
      refine G.go tv_X12_format 2 93 [(0, .ref (gAd E (56))), (1, .int (nI (j)))] [.int ((8 : Int32)), .int (nI (j)), .ref (gAd E (79)), .int (nI (j / 8)), .ref (gAd E (79))] rfl ?_
      refine G.idiv (by decide) (tbd tv_X12_format rfl) ?_
      refine G.eqs [.int (nI (j / 8)), .ref (gAd E (79)), .int (nI (j / 8)), .ref (gAd E (79))] (by rw [show (8 : Int32) = nI 8 from rfl, pk_div (by omega) (by omega) (by omega)]) ?_
      refine G.baldN (79) (j / 8) (by omega) (r.a44) (by omega) (by decide) (tbd tv_X12_format rfl) ?_
      refine G.go tv_X12_format 3 99 [(0, .ref (gAd E (56))), (1, .int (nI (j)))] [.int ((8 : Int32)), .int (nI (j)), .int ((1 : Int32)), .int ((fmBt o N (j)) (j / 8)), .int (nI (j / 8)), .ref (gAd E (79))] rfl ?_
      refine G.irem (by decide) (tbd tv_X12_format rfl) ?_
      refine G.eqs [.int (nI (j % 8)), .int ((1 : Int32)), .int ((fmBt o N (j)) (j / 8)), .int (nI (j / 8)), .ref (gAd E (79))] (by rw [show (8 : Int32) = nI 8 from rfl, pk_rem (by omega) (by omega) (by omega)]) ?_
      refine G.go tv_X12_format 3 103 [(0, .ref (gAd E (56))), (1, .int (nI (j)))] [.int ((((fmBt o N (j)) (j / 8)) ||| (((1 : Int32)) <<< ((nI (j % 8)) &&& 31)) : Int32).toInt8.toInt32), .int (nI (j / 8)), .ref (gAd E (79))] rfl ?_
      refine G.raB (j / 8) hE ⟨by decide, by decide⟩ r.a44 (r.p44 _) (by omega) (by decide) (tbd tv_X12_format rfl) (fun u1 r1 h1 => ?_)
      refine G.go tv_X12_format 2 57 [(0, .ref (gAd E (56))), (1, .int (nI (j) + (1 : Int32)))] [] rfl ?_
      refine G.eql [(0, .ref (gAd E (56))), (1, .int (nI (j + 1)))] (by rw [nI_1]) ?_
      exact ih (j + 1) (by omega) _ (by have q : RfV E u1 (setA (setA X 44 (fmBt o N (j))) 44 (upd (fmBt o N (j)) (j / 8) (vp_nar .byte ((((fmBt o N (j)) (j / 8)) ||| (((1 : Int32)) <<< ((nI (j % 8)) &&& 31)) : Int32).toInt8.toInt32)))) := r1; rw [setA_A, ← fmBt_y hk] at q; exact q) ((hf).tr h1 (fun _ h => h))
    · skip
      refine G.go tv_X12_format 2 72 [(0, .ref (gAd E (56))), (1, .int (nI (j)))] [.ref (gAd E (56)), .int (nI (j))] rfl ?_
      refine G.rg r hE 1 (.int (rS X 1)) (by decide) rfl (tbd tv_X12_format rfl) w_2066 ?_
      refine G.cmp_lt 104 (tbd tv_X12_format rfl) (by decide) (fun c75 => ?_) (fun c75 => ?_)
      · skip
        have hk : ¬ (j < 61 ∨ N ≤ j) := by rw [hN] at c75; have a := (nI_ltI (by omega) (by omega)).mp c75; have b : ¬ j < 61 := fun q => c67 (nI_lt q (by omega) : nI j < nI 61); omega
        refine G.go tv_X12_format 2 57 [(0, .ref (gAd E (56))), (1, .int (nI (j) + (1 : Int32)))] [] rfl ?_
        refine G.eql [(0, .ref (gAd E (56))), (1, .int (nI (j + 1)))] (by rw [nI_1]) ?_
        exact ih (j + 1) (by omega) _ (by rw [fmBt_n hk]; exact r) (hf)
      · skip
        have hk : j < 61 ∨ N ≤ j := Or.inr (by rw [hN] at c75; exact Nat.not_lt.mp (fun q => c75 (nI_lt q (by omega))))
        refine G.go tv_X12_format 1 79 [(0, .ref (gAd E (56))), (1, .int (nI (j)))] [.ref (gAd E (56))] rfl ?_
        refine G.rg r hE 44 (.ref (gAd E (79))) (by decide) rfl (tbd tv_X12_format rfl) w_2109 ?_
        refine G.go tv_X12_format 2 85 [(0, .ref (gAd E (56))), (1, .int (nI (j)))] [.int ((8 : Int32)), .int (nI (j)), .ref (gAd E (79))] rfl ?_
        refine G.idiv (by decide) (tbd tv_X12_format rfl) ?_
        refine G.eqs [.int (nI (j / 8)), .ref (gAd E (79))] (by rw [show (8 : Int32) = nI 8 from rfl, pk_div (by omega) (by omega) (by omega)]) ?_
        refine G.go tv_X12_format 1 87 [(0, .ref (gAd E (56))), (1, .int (nI (j)))] [.ref (gAd E (56)), .int (nI (j / 8)), .ref (gAd E (79))] rfl ?_
        refine G.rg r hE 44 (.ref (gAd E (79))) (by decide) rfl (tbd tv_X12_format rfl) w_2109 ?_
        refine G.go tv_X12_format 2 93 [(0, .ref (gAd E (56))), (1, .int (nI (j)))] [.int ((8 : Int32)), .int (nI (j)), .ref (gAd E (79)), .int (nI (j / 8)), .ref (gAd E (79))] rfl ?_
        refine G.idiv (by decide) (tbd tv_X12_format rfl) ?_
        refine G.eqs [.int (nI (j / 8)), .ref (gAd E (79)), .int (nI (j / 8)), .ref (gAd E (79))] (by rw [show (8 : Int32) = nI 8 from rfl, pk_div (by omega) (by omega) (by omega)]) ?_
        refine G.baldN (79) (j / 8) (by omega) (r.a44) (by omega) (by decide) (tbd tv_X12_format rfl) ?_
        refine G.go tv_X12_format 3 99 [(0, .ref (gAd E (56))), (1, .int (nI (j)))] [.int ((8 : Int32)), .int (nI (j)), .int ((1 : Int32)), .int ((fmBt o N (j)) (j / 8)), .int (nI (j / 8)), .ref (gAd E (79))] rfl ?_
        refine G.irem (by decide) (tbd tv_X12_format rfl) ?_
        refine G.eqs [.int (nI (j % 8)), .int ((1 : Int32)), .int ((fmBt o N (j)) (j / 8)), .int (nI (j / 8)), .ref (gAd E (79))] (by rw [show (8 : Int32) = nI 8 from rfl, pk_rem (by omega) (by omega) (by omega)]) ?_
        refine G.go tv_X12_format 3 103 [(0, .ref (gAd E (56))), (1, .int (nI (j)))] [.int ((((fmBt o N (j)) (j / 8)) ||| (((1 : Int32)) <<< ((nI (j % 8)) &&& 31)) : Int32).toInt8.toInt32), .int (nI (j / 8)), .ref (gAd E (79))] rfl ?_
        refine G.raB (j / 8) hE ⟨by decide, by decide⟩ r.a44 (r.p44 _) (by omega) (by decide) (tbd tv_X12_format rfl) (fun u2 r2 h2 => ?_)
        refine G.go tv_X12_format 2 57 [(0, .ref (gAd E (56))), (1, .int (nI (j) + (1 : Int32)))] [] rfl ?_
        refine G.eql [(0, .ref (gAd E (56))), (1, .int (nI (j + 1)))] (by rw [nI_1]) ?_
        exact ih (j + 1) (by omega) _ (by have q : RfV E u2 (setA (setA X 44 (fmBt o N (j))) 44 (upd (fmBt o N (j)) (j / 8) (vp_nar .byte ((((fmBt o N (j)) (j / 8)) ||| (((1 : Int32)) <<< ((nI (j % 8)) &&& 31)) : Int32).toInt8.toInt32)))) := r2; rw [setA_A, ← fmBt_y hk] at q; exact q) ((hf).tr h2 (fun _ h => h))
set_option maxRecDepth 100000 in
set_option maxHeartbeats 4000000 in
theorem fm_c (E : gE) (f0 : Nat → va_E) (sz : Nat) (A : Nat → Prop) (Q : gQ) (hE : 94 ≤ gN E) (X : RfT) (B : Nat) (hok : rOk X B) (f : Nat → va_E) (r : RfV E f (X)) (hf : Fr RfK f0 f) (kq : ∀ g, RfV E g (fmC X) → Fr RfK f0 g → G E (7, yX12_format, 2, (some .int), sz, A) cX12_format (gO E (7, yX12_format, 2, (some .int), sz, A) Q) 175 [(0, .ref (gAd E (56))), (1, .int (nI (46 + 0)))] [] g) : G E (7, yX12_format, 2, (some .int), sz, A) cX12_format (gO E (7, yX12_format, 2, (some .int), sz, A) Q) 110 [(0, .ref (gAd E (56))), (1, .int (nI (1024)))] [] f := by
  refine G.go tv_X12_format 3 114 [(0, .ref (gAd E (56))), (1, .int (nI (1024)))] [.ref (gAd E (56)), .int ((43 : Int32)), .ref (gAd E (56))] rfl ?_
  refine G.rg r hE 44 (.ref (gAd E (79))) (by decide) rfl (tbd tv_X12_format rfl) w_2109 ?_
  refine G.go tv_X12_format 1 118 [(0, .ref (gAd E (56))), (1, .int (nI (1024)))] [.int ((0 : Int32)), .ref (gAd E (79)), .int ((43 : Int32)), .ref (gAd E (56))] rfl ?_
  refine G.eqs [.int (nI (0)), .ref (gAd E (79)), .int (nI (43)), .ref (gAd E (56))] rfl ?_
  refine G.callV (56) [.int (nI (43)), .ref (gAd E (79)), .int (nI (0))] [] (c_go E _ (X) B (43) hok (by omega) hE r) cls_X12 (by omega) (r.o) cw_X12_252 w_2280 w_56 (Nat.le_of_ble_eq_true rfl) rfl (Nat.le_of_ble_eq_true rfl) (tbd tv_X12_format rfl) (fun v1 f1 q1 => ?_) (fun _ _ h => h.elim)
  obtain ⟨rfl, ra1, fa1⟩ := q1
  refine G.eqs [] rfl ?_
  have ok1 : rOk (rGo (X) (43)) B := rGo_ok hok (by omega)
  refine G.go tv_X12_format 1 122 [(0, .ref (gAd E (56))), (1, .int (nI (1024)))] [.ref (gAd E (56))] rfl ?_
  refine G.callV (56) [] [] (c_X12_empty E _ (rGo (X) (43)) hE ra1) cls_X12 (by omega) (ra1.o) cw_X12_249 w_2276 w_55 (Nat.le_of_ble_eq_true rfl) rfl (Nat.le_of_ble_eq_true rfl) (tbd tv_X12_format rfl) (fun v2 f2 q2 => ?_) (fun _ _ h => h.elim)
  obtain ⟨rfl, ra2, fa2⟩ := q2
  refine G.eqs [] rfl ?_
  have ok2 : rOk (rEm (rGo (X) (43))) B := rEm_ok ok1
  refine G.go tv_X12_format 1 126 [(0, .ref (gAd E (56))), (1, .int (nI (1024)))] [.ref (gAd E (56))] rfl ?_
  refine G.rg ra2 hE 44 (.ref (gAd E (79))) (by decide) rfl (tbd tv_X12_format rfl) w_2109 ?_
  refine G.go tv_X12_format 2 131 [(0, .ref (gAd E (56))), (1, .int (nI (1024)))] [.int ((1 : Int32)), .int ((0 : Int32)), .ref (gAd E (79))] rfl ?_
  refine G.eqs [.int ((1 : Int32)), .int (nI 0), .ref (gAd E (79))] (rfl) ?_
  refine G.raB (0) hE ⟨by decide, by decide⟩ ra2.a44 (ra2.p44 _) (by decide) (by decide) (tbd tv_X12_format rfl) (fun u3 r3 h3 => ?_)
  refine G.go tv_X12_format 3 136 [(0, .ref (gAd E (56))), (1, .int (nI (1024)))] [.ref (gAd E (56)), .int ((44 : Int32)), .ref (gAd E (56))] rfl ?_
  refine G.rg r3 hE 44 (.ref (gAd E (79))) (by decide) rfl (tbd tv_X12_format rfl) w_2109 ?_
  refine G.go tv_X12_format 1 140 [(0, .ref (gAd E (56))), (1, .int (nI (1024)))] [.int ((0 : Int32)), .ref (gAd E (79)), .int ((44 : Int32)), .ref (gAd E (56))] rfl ?_
  have rn1 : RfV E u3 (fmC1 (rGo X 43)) := RfV.cast r3 (by show setA (setA (rGo X 43) 44 _) 44 _ = _; rw [setA_A]; rfl)
  have kn1 : rOk (fmC1 (rGo X 43)) B := fmC1_ok (rGo_ok hok (by decide))
  refine G.eqs [.int (nI (0)), .ref (gAd E (79)), .int (nI (44)), .ref (gAd E (56))] rfl ?_
  refine G.callV (56) [.int (nI (44)), .ref (gAd E (79)), .int (nI (0))] [] (c_go E _ (fmC1 (rGo X 43)) B (44) kn1 (by omega) hE rn1) cls_X12 (by omega) (rn1.o) cw_X12_252 w_2280 w_56 (Nat.le_of_ble_eq_true rfl) rfl (Nat.le_of_ble_eq_true rfl) (tbd tv_X12_format rfl) (fun v3 f3 q3 => ?_) (fun _ _ h => h.elim)
  obtain ⟨rfl, ra3, fa3⟩ := q3
  refine G.eqs [] rfl ?_
  have ok3 : rOk (rGo (fmC1 (rGo X 43)) (44)) B := rGo_ok kn1 (by omega)
  refine G.go tv_X12_format 1 144 [(0, .ref (gAd E (56))), (1, .int (nI (1024)))] [.ref (gAd E (56))] rfl ?_
  refine G.callV (56) [] [] (c_X12_empty E _ (rGo (fmC1 (rGo X 43)) (44)) hE ra3) cls_X12 (by omega) (ra3.o) cw_X12_249 w_2276 w_55 (Nat.le_of_ble_eq_true rfl) rfl (Nat.le_of_ble_eq_true rfl) (tbd tv_X12_format rfl) (fun v4 f4 q4 => ?_) (fun _ _ h => h.elim)
  obtain ⟨rfl, ra4, fa4⟩ := q4
  refine G.eqs [] rfl ?_
  have ok4 : rOk (rEm (rGo (fmC1 (rGo X 43)) (44))) B := rEm_ok ok3
  refine G.go tv_X12_format 1 148 [(0, .ref (gAd E (56))), (1, .int (nI (1024)))] [.ref (gAd E (56))] rfl ?_
  refine G.rg ra4 hE 44 (.ref (gAd E (79))) (by decide) rfl (tbd tv_X12_format rfl) w_2109 ?_
  refine G.go tv_X12_format 2 153 [(0, .ref (gAd E (56))), (1, .int (nI (1024)))] [.int ((2 : Int32)), .int ((0 : Int32)), .ref (gAd E (79))] rfl ?_
  refine G.eqs [.int ((2 : Int32)), .int (nI 0), .ref (gAd E (79))] (rfl) ?_
  refine G.raB (0) hE ⟨by decide, by decide⟩ ra4.a44 (ra4.p44 _) (by decide) (by decide) (tbd tv_X12_format rfl) (fun u4 r4 h4 => ?_)
  refine G.go tv_X12_format 1 155 [(0, .ref (gAd E (56))), (1, .int (nI (1024)))] [.ref (gAd E (56))] rfl ?_
  refine G.rg r4 hE 44 (.ref (gAd E (79))) (by decide) rfl (tbd tv_X12_format rfl) w_2109 ?_
  refine G.go tv_X12_format 2 160 [(0, .ref (gAd E (56))), (1, .int (nI (1024)))] [.int ((1 : Int32)), .int ((1 : Int32)), .ref (gAd E (79))] rfl ?_
  refine G.eqs [.int ((1 : Int32)), .int (nI 1), .ref (gAd E (79))] (rfl) ?_
  refine G.raB (1) hE ⟨by decide, by decide⟩ r4.a44 (r4.p44 _) (by decide) (by decide) (tbd tv_X12_format rfl) (fun u5 r5 h5 => ?_)
  refine G.go tv_X12_format 3 165 [(0, .ref (gAd E (56))), (1, .int (nI (1024)))] [.ref (gAd E (56)), .int ((45 : Int32)), .ref (gAd E (56))] rfl ?_
  refine G.rg r5 hE 44 (.ref (gAd E (79))) (by decide) rfl (tbd tv_X12_format rfl) w_2109 ?_
  refine G.go tv_X12_format 1 169 [(0, .ref (gAd E (56))), (1, .int (nI (1024)))] [.int ((0 : Int32)), .ref (gAd E (79)), .int ((45 : Int32)), .ref (gAd E (56))] rfl ?_
  have rn2 : RfV E u5 (fmC2 (rGo (fmC1 (rGo X 43)) 44)) := RfV.cast r5 (by show setA (setA (setA (rGo (fmC1 (rGo X 43)) 44) 44 _) 44 _) 44 _ = _; rw [setA_A, setA_A]; rfl)
  have kn2 : rOk (fmC2 (rGo (fmC1 (rGo X 43)) 44)) B := fmC2_ok (rGo_ok (fmC1_ok (rGo_ok hok (by decide))) (by decide))
  refine G.eqs [.int (nI (0)), .ref (gAd E (79)), .int (nI (45)), .ref (gAd E (56))] rfl ?_
  refine G.callV (56) [.int (nI (45)), .ref (gAd E (79)), .int (nI (0))] [] (c_go E _ (fmC2 (rGo (fmC1 (rGo X 43)) 44)) B (45) kn2 (by omega) hE rn2) cls_X12 (by omega) (rn2.o) cw_X12_252 w_2280 w_56 (Nat.le_of_ble_eq_true rfl) rfl (Nat.le_of_ble_eq_true rfl) (tbd tv_X12_format rfl) (fun v5 f5 q5 => ?_) (fun _ _ h => h.elim)
  obtain ⟨rfl, ra5, fa5⟩ := q5
  refine G.eqs [] rfl ?_
  have ok5 : rOk (rGo (fmC2 (rGo (fmC1 (rGo X 43)) 44)) (45)) B := rGo_ok kn2 (by omega)
  refine G.go tv_X12_format 2 175 [(0, .ref (gAd E (56))), (1, .int ((46 : Int32)))] [] rfl ?_
  exact kq _ (ra5) (((((((((hf).tr fa1 (fun _ h => h)).tr fa2 (fun _ h => h)).tr h3 (fun _ h => h)).tr fa3 (fun _ h => h)).tr fa4 (fun _ h => h)).tr h4 (fun _ h => h)).tr h5 (fun _ h => h)).tr fa5 (fun _ h => h))
theorem w_2270 : Cond.methodLink "LedgerFilesModel" 392 yX12_putZero ∈ TB := tp_9 204 (by decide +kernel) rfl
theorem w_2273 : Cond.code yX12_putZero prog_14_method_79_code 2 none ∈ TB := tp_9 207 rfl rfl
theorem cw_X12_392 : Cw RX12 392 yX12_putZero cX12_putZero 2 none 1 := ⟨w_2270, w_2273, w_161, by decide +kernel, by decide +kernel, by decide⟩
theorem w_2272 : Cond.instanceMethod yX12_putZero ∈ TB := tp_9 206 (by decide +kernel) rfl
theorem w_54 : Cond.selects "LedgerFilesModel" yX12_putZero yX12_putZero ∈ TB := tp_0 54 (by decide +kernel) rfl
set_option maxRecDepth 100000 in
set_option maxHeartbeats 4000000 in
theorem fm_d (E : gE) (f0 : Nat → va_E) (sz : Nat) (A : Nat → Prop) (Q : gQ) (hE : 94 ≤ gN E) (X : RfT) (B : Nat) (hok : rOk X B) (kq : ∀ g, RfV E g (rPzs X (15)) → Fr RfK f0 g → G E (7, yX12_format, 2, (some .int), sz, A) cX12_format (gO E (7, yX12_format, 2, (some .int), sz, A) Q) 192 [(0, .ref (gAd E (56))), (1, .int (nI (46 + 15)))] [] g) : ∀ (d j : Nat), j + d = 15 → ∀ f, RfV E f (rPzs X (j)) → Fr RfK f0 f → G E (7, yX12_format, 2, (some .int), sz, A) cX12_format (gO E (7, yX12_format, 2, (some .int), sz, A) Q) 175 [(0, .ref (gAd E (56))), (1, .int (nI (46 + j)))] [] f := by
  intro d
  induction d with
  | zero =>
    intro j e f r hf
    have e : j = 15 := e
    refine G.go tv_X12_format 2 178 [(0, .ref (gAd E (56))), (1, .int (nI (46 + j)))] [.int ((61 : Int32)), .int (nI (46 + j))] rfl ?_
    refine G.cmp_ge 192 (tbd tv_X12_format rfl) (by decide) (fun c178 => ?_) (fun c178 => absurd (by rw [e]; exact (nI_le (Nat.le_refl _) (by omega) : nI 61 ≤ nI 61)) c178)
    refine G.eql [(0, .ref (gAd E (56))), (1, .int (nI (46 + 15)))] (by rw [e]) ?_
    exact kq _ (by rw [e] at r; exact r) (hf)
  | succ d ih =>
    intro j e f r hf
    refine G.go tv_X12_format 2 178 [(0, .ref (gAd E (56))), (1, .int (nI (46 + j)))] [.int ((61 : Int32)), .int (nI (46 + j))] rfl ?_
    refine G.cmp_ge 192 (tbd tv_X12_format rfl) (by decide) (fun c178 => absurd c178 ((nI_ge (by omega) (by omega) : ¬ nI 61 ≤ nI (46 + j)))) (fun c178 => ?_)
    refine G.go tv_X12_format 2 183 [(0, .ref (gAd E (56))), (1, .int (nI (46 + j)))] [.int (nI (46 + j)), .ref (gAd E (56))] rfl ?_
    refine G.callV (56) [.int (nI (46 + j))] [] (c_X12_putZero E _ (rPzs X (j)) B (rPzs_ok hok j (by omega)) hE r (46 + j) (by omega)) cls_X12 (by omega) (r.o) cw_X12_392 w_2272 w_54 (Nat.le_of_ble_eq_true rfl) rfl (Nat.le_of_ble_eq_true rfl) (tbd tv_X12_format rfl) (fun v1 f1 q1 => ?_) (fun _ _ h => h.elim)
    obtain ⟨rfl, ra1, fa1⟩ := q1
    refine G.eqs [] rfl ?_
    refine G.go tv_X12_format 2 175 [(0, .ref (gAd E (56))), (1, .int (nI (46 + j) + (1 : Int32)))] [] rfl ?_
    refine G.eql [(0, .ref (gAd E (56))), (1, .int (nI (46 + (j + 1))))] (by rw [nI_1]; rfl) ?_
    exact ih (j + 1) (by omega) _ (ra1) ((hf).tr fa1 (fun _ h => h))
theorem w_2313 : Cond.methodLink "LedgerFilesModel" 255 yX12_settle ∈ TB := tp_10 7 (by decide +kernel) rfl
theorem w_2316 : Cond.code yX12_settle prog_14_method_19_code 2 none ∈ TB := tp_10 10 rfl rfl
theorem cw_X12_255 : Cw RX12 255 yX12_settle cX12_settle 2 none 0 := ⟨w_2313, w_2316, w_161, by decide +kernel, by decide +kernel, by decide⟩
theorem w_2315 : Cond.instanceMethod yX12_settle ∈ TB := tp_10 9 (by decide +kernel) rfl
theorem w_64 : Cond.selects "LedgerFilesModel" yX12_settle yX12_settle ∈ TB := tp_0 64 (by decide +kernel) rfl
set_option maxRecDepth 100000 in
set_option maxHeartbeats 4000000 in
theorem fm_e1 (E : gE) (f0 : Nat → va_E) (sz : Nat) (A : Nat → Prop) (Q : gQ) (hE : 94 ≤ gN E) (X : RfT) (B : Nat) (hok : rOk X B) (x : Int32) (f : Nat → va_E) (r : RfV E f (X)) (hf : Fr RfK f0 f) (kq : ∀ g, RfV E g (fmE1 X) → Fr RfK f0 g → G E (7, yX12_format, 2, (some .int), sz, A) cX12_format (gO E (7, yX12_format, 2, (some .int), sz, A) Q) 203 [(0, .ref (gAd E (56))), (1, .int (x))] [] g) : G E (7, yX12_format, 2, (some .int), sz, A) cX12_format (gO E (7, yX12_format, 2, (some .int), sz, A) Q) 192 [(0, .ref (gAd E (56))), (1, .int (x))] [] f := by
  refine G.go tv_X12_format 1 193 [(0, .ref (gAd E (56))), (1, .int (x))] [.ref (gAd E (56))] rfl ?_
  refine G.rg r hE 11 (.int (rS X 11)) (by decide) rfl (tbd tv_X12_format rfl) w_2076 ?_
  refine G.if_eq 203 (tbd tv_X12_format rfl) (by decide) (fun c196 => ?_) (fun c196 => ?_)
  · skip
    exact kq _ (by unfold fmE1; rw [if_pos c196]; exact r) (hf)
  · skip
    refine G.go tv_X12_format 1 200 [(0, .ref (gAd E (56))), (1, .int (x))] [.ref (gAd E (56))] rfl ?_
    refine G.callV (56) [] [] (c_X12_settle E _ (X) B hok hE r) cls_X12 (by omega) (r.o) cw_X12_255 w_2315 w_64 (Nat.le_of_ble_eq_true rfl) rfl (Nat.le_of_ble_eq_true rfl) (tbd tv_X12_format rfl) (fun v1 f1 q1 => ?_) (fun _ _ h => h.elim)
    obtain ⟨rfl, ra1, fa1⟩ := q1
    refine G.eqs [] rfl ?_
    have ok1 : rOk (rSett (X)) B := rSett_ok hok
    exact kq _ (by unfold fmE1; rw [if_neg c196]; exact ra1) ((hf).tr fa1 (fun _ h => h))
theorem w_2332 : Cond.methodLink "LedgerFilesModel" 395 yX12_head ∈ TB := tp_10 26 (by decide +kernel) rfl
theorem w_2335 : Cond.code yX12_head prog_14_method_81_code 1 none ∈ TB := tp_10 29 rfl rfl
theorem cw_X12_395 : Cw RX12 395 yX12_head cX12_head 1 none 0 := ⟨w_2332, w_2335, w_161, by decide +kernel, by decide +kernel, by decide⟩
theorem w_2334 : Cond.instanceMethod yX12_head ∈ TB := tp_10 28 (by decide +kernel) rfl
theorem w_68 : Cond.selects "LedgerFilesModel" yX12_head yX12_head ∈ TB := tp_0 68 (by decide +kernel) rfl
set_option maxRecDepth 100000 in
set_option maxHeartbeats 4000000 in
theorem fm_e2 (E : gE) (f0 : Nat → va_E) (sz : Nat) (A : Nat → Prop) (Q : gQ) (hE : 94 ≤ gN E) (X : RfT) (B : Nat) (hok : rOk X B) (x : Int32) (f : Nat → va_E) (r : RfV E f (X)) (hf : Fr RfK f0 f) (kq : ∀ g, RfV E g (fmE2 X) → Fr RfK f0 g → G E (7, yX12_format, 2, (some .int), sz, A) cX12_format (gO E (7, yX12_format, 2, (some .int), sz, A) Q) 224 [(0, .ref (gAd E (56))), (1, .int (x))] [] g) : G E (7, yX12_format, 2, (some .int), sz, A) cX12_format (gO E (7, yX12_format, 2, (some .int), sz, A) Q) 203 [(0, .ref (gAd E (56))), (1, .int (x))] [] f := by
  refine G.go tv_X12_format 1 204 [(0, .ref (gAd E (56))), (1, .int (x))] [.ref (gAd E (56))] rfl ?_
  refine G.rg r hE 11 (.int (rS X 11)) (by decide) rfl (tbd tv_X12_format rfl) w_2076 ?_
  refine G.if_eq 224 (tbd tv_X12_format rfl) (by decide) (fun c207 => ?_) (fun c207 => ?_)
  · skip
    exact kq _ (by unfold fmE2; rw [if_pos c207]; exact r) (hf)
  · skip
    refine G.go tv_X12_format 1 211 [(0, .ref (gAd E (56))), (1, .int (x))] [.ref (gAd E (56))] rfl ?_
    refine G.callV (56) [] [] (c_X12_head E _ (X) B hok hE r) cls_X12 (by omega) (r.o) cw_X12_395 w_2334 w_68 (Nat.le_of_ble_eq_true rfl) rfl (Nat.le_of_ble_eq_true rfl) (tbd tv_X12_format rfl) (fun v1 f1 q1 => ?_) (fun _ _ h => h.elim)
    obtain ⟨rfl, ra1, fa1⟩ := q1
    refine G.eqs [] rfl ?_
    have ok1 : rOk (rHd (X)) B := rHd_ok hok
    refine G.go tv_X12_format 3 217 [(0, .ref (gAd E (56))), (1, .int (x))] [.ref (gAd E (56)), .int ((0 : Int32)), .ref (gAd E (56))] rfl ?_
    refine G.rg ra1 hE 44 (.ref (gAd E (79))) (by decide) rfl (tbd tv_X12_format rfl) w_2109 ?_
    refine G.go tv_X12_format 1 221 [(0, .ref (gAd E (56))), (1, .int (x))] [.int ((0 : Int32)), .ref (gAd E (79)), .int ((0 : Int32)), .ref (gAd E (56))] rfl ?_
    refine G.eqs [.int (nI (0)), .ref (gAd E (79)), .int (nI (0)), .ref (gAd E (56))] rfl ?_
    refine G.callV (56) [.int (nI (0)), .ref (gAd E (79)), .int (nI (0))] [] (c_go E _ (rHd (X)) B (0) ok1 (by omega) hE ra1) cls_X12 (by omega) (ra1.o) cw_X12_252 w_2280 w_56 (Nat.le_of_ble_eq_true rfl) rfl (Nat.le_of_ble_eq_true rfl) (tbd tv_X12_format rfl) (fun v2 f2 q2 => ?_) (fun _ _ h => h.elim)
    obtain ⟨rfl, ra2, fa2⟩ := q2
    refine G.eqs [] rfl ?_
    have ok2 : rOk (rGo (rHd (X)) (0)) B := rGo_ok ok1 (by omega)
    exact kq _ (by unfold fmE2; rw [if_neg c207]; exact ra2) (((hf).tr fa1 (fun _ h => h)).tr fa2 (fun _ h => h))
set_option maxRecDepth 100000 in
set_option maxHeartbeats 4000000 in
theorem fm_e3 (E : gE) (f0 : Nat → va_E) (sz : Nat) (A : Nat → Prop) (Q : gQ) (hE : 94 ≤ gN E) (X : RfT) (B : Nat) (hok : rOk X B) (x : Int32) (f : Nat → va_E) (r : RfV E f (X)) (hf : Fr RfK f0 f) (kq : ∀ g, RfV E g (fmE1 X) → Fr RfK f0 g → G E (7, yX12_format, 2, (some .int), sz, A) cX12_format (gO E (7, yX12_format, 2, (some .int), sz, A) Q) 235 [(0, .ref (gAd E (56))), (1, .int (x))] [] g) : G E (7, yX12_format, 2, (some .int), sz, A) cX12_format (gO E (7, yX12_format, 2, (some .int), sz, A) Q) 224 [(0, .ref (gAd E (56))), (1, .int (x))] [] f := by
  refine G.go tv_X12_format 1 225 [(0, .ref (gAd E (56))), (1, .int (x))] [.ref (gAd E (56))] rfl ?_
  refine G.rg r hE 11 (.int (rS X 11)) (by decide) rfl (tbd tv_X12_format rfl) w_2076 ?_
  refine G.if_eq 235 (tbd tv_X12_format rfl) (by decide) (fun c228 => ?_) (fun c228 => ?_)
  · skip
    exact kq _ (by unfold fmE1; rw [if_pos c228]; exact r) (hf)
  · skip
    refine G.go tv_X12_format 1 232 [(0, .ref (gAd E (56))), (1, .int (x))] [.ref (gAd E (56))] rfl ?_
    refine G.callV (56) [] [] (c_X12_settle E _ (X) B hok hE r) cls_X12 (by omega) (r.o) cw_X12_255 w_2315 w_64 (Nat.le_of_ble_eq_true rfl) rfl (Nat.le_of_ble_eq_true rfl) (tbd tv_X12_format rfl) (fun v1 f1 q1 => ?_) (fun _ _ h => h.elim)
    obtain ⟨rfl, ra1, fa1⟩ := q1
    refine G.eqs [] rfl ?_
    have ok1 : rOk (rSett (X)) B := rSett_ok hok
    exact kq _ (by unfold fmE1; rw [if_neg c228]; exact ra1) ((hf).tr fa1 (fun _ h => h))
theorem rGo_1 {R : RfT} {t : Nat} : rS (rGo R t) 1 = rS R 1 := by
  have a : ∀ X : RfT, ∀ k, rS (rWr X k) 1 = rS X 1 := fun X k => rWrt_S (by decide) (by decide) (by decide) (by decide)
  have b : ∀ X : RfT, ∀ k, rS (rLe X k) 1 = rS X 1 := fun X k => rLv_S (by decide)
  unfold rGo rHand
  split
  · rfl
  · split
    · split
      · split
        · show rS (rLe (setS (rWr R _) 20 _) _) 1 = rS R 1
          rw [b]
          exact a R _
        · rfl
      · rfl
    · rfl
theorem rPh_1 {R : RfT} {B en : Nat} {tu : Int32} (h : rOk R B) : rS (rPh R en tu) 1 = rS R 1 := by
  unfold rPh
  rw [rGo_1]
  rfl
theorem w_2325 : Cond.methodLink "LedgerFilesModel" 258 yX12_putHead ∈ TB := tp_10 19 (by decide +kernel) rfl
theorem w_2328 : Cond.code yX12_putHead prog_14_method_28_code 5 none ∈ TB := tp_10 22 rfl rfl
theorem cw_X12_258 : Cw RX12 258 yX12_putHead cX12_putHead 5 none 2 := ⟨w_2325, w_2328, w_161, by decide +kernel, by decide +kernel, by decide⟩
theorem w_2327 : Cond.instanceMethod yX12_putHead ∈ TB := tp_10 21 (by decide +kernel) rfl
theorem w_67 : Cond.selects "LedgerFilesModel" yX12_putHead yX12_putHead ∈ TB := tp_0 67 (by decide +kernel) rfl
set_option maxRecDepth 100000 in
set_option maxHeartbeats 4000000 in
theorem fm_f (E : gE) (f0 : Nat → va_E) (sz : Nat) (A : Nat → Prop) (Q : gQ) (hE : 94 ≤ gN E) (X : RfT) (B : Nat) (hok : rOk X B) (N : Nat) (hN : rS X 1 = nI N) (hN2 : N ≤ 1024) (f : Nat → va_E) (r : RfV E f X) (hf : Fr RfK f0 f) (kq : ∀ g x, RfV E g (fmF X N) → Fr RfK f0 g → G E (7, yX12_format, 2, (some .int), sz, A) cX12_format (gO E (7, yX12_format, 2, (some .int), sz, A) Q) 192 [(0, .ref (gAd E (56))), (1, .int (x))] [] g) (kq0 : rS X 11 = 0 → RfV E f (fmF X N) → Fr RfK f0 f → G E (7, yX12_format, 2, (some .int), sz, A) cX12_format (gO E (7, yX12_format, 2, (some .int), sz, A) Q) 192 [(0, .ref (gAd E (56)))] [] f) : G E (7, yX12_format, 2, (some .int), sz, A) cX12_format (gO E (7, yX12_format, 2, (some .int), sz, A) Q) 38 [(0, .ref (gAd E (56)))] [] f := by
  refine G.go tv_X12_format 1 39 [(0, .ref (gAd E (56)))] [.ref (gAd E (56))] rfl ?_
  refine G.rg r hE 11 (.int (rS X 11)) (by decide) rfl (tbd tv_X12_format rfl) w_2076 ?_
  refine G.if_eq 192 (tbd tv_X12_format rfl) (by decide) (fun c42 => ?_) (fun c42 => ?_)
  · skip
    exact kq0 c42 (by unfold fmF; rw [if_pos c42]; exact r) (hf)
  · skip
    refine G.go tv_X12_format 3 48 [(0, .ref (gAd E (56)))] [.int ((0 : Int32)), .int ((0 : Int32)), .ref (gAd E (56))] rfl ?_
    refine G.eqs [.int ((0 : Int32)), .int (nI 0), .ref (gAd E (56))] rfl ?_
    refine G.callV (56) [.int (nI 0), .int ((0 : Int32))] [] (c_X12_putHead E _ (X) B hok hE r 0 (by decide) 0) cls_X12 (by omega) (r.o) cw_X12_258 w_2327 w_67 (Nat.le_of_ble_eq_true rfl) rfl (Nat.le_of_ble_eq_true rfl) (tbd tv_X12_format rfl) (fun v1 f1 q1 => ?_) (fun _ _ h => h.elim)
    obtain ⟨rfl, ra1, fa1⟩ := q1
    refine G.eqs [] rfl ?_
    have ok1 : rOk (rPh (X) 0 0) B := rPh_ok hok
    refine G.go tv_X12_format 1 52 [(0, .ref (gAd E (56)))] [.ref (gAd E (56))] rfl ?_
    refine G.callV (56) [] [] (c_X12_empty E _ (rPh (X) 0 0) hE ra1) cls_X12 (by omega) (ra1.o) cw_X12_249 w_2276 w_55 (Nat.le_of_ble_eq_true rfl) rfl (Nat.le_of_ble_eq_true rfl) (tbd tv_X12_format rfl) (fun v2 f2 q2 => ?_) (fun _ _ h => h.elim)
    obtain ⟨rfl, ra2, fa2⟩ := q2
    refine G.eqs [] rfl ?_
    have ok2 : rOk (rEm (rPh (X) 0 0)) B := rEm_ok ok1
    refine G.go tv_X12_format 2 57 [(0, .ref (gAd E (56))), (1, .int ((0 : Int32)))] [] rfl ?_
    have okp : rOk (rPh X 0 0) B := rPh_ok hok
    have hN1 : rS (rPh X 0 0) 1 = nI N := (rPh_1 hok).trans hN
    refine fm_b E f0 _ _ _ hE (rPh X 0 0) (flt (rA (rPh X 0 0) 44) 0 128 0) N hN1 hN2 ?_ 1024 0 (by omega) _ ra2 (((hf).tr fa1 (fun _ h => h)).tr fa2 (fun _ h => h))
    intro u1 r1 h1
    refine fm_c E f0 _ _ _ hE (fmA (rPh X 0 0) N) B (fmA_ok okp) _ r1 h1 ?_
    intro u2 r2 h2
    refine fm_d E f0 _ _ _ hE (fmC (fmA (rPh X 0 0) N)) B (fmC_ok (fmA_ok okp)) ?_ 15 0 (by omega) _ r2 h2
    intro u3 r3 h3
    exact kq _ _ (by unfold fmF; rw [if_neg c42]; exact r3) h3
