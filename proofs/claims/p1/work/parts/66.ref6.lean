theorem rPush_ok {R : RfT} {wf w B hd t q : Nat} (h : rDb R wf w B hd) (hw : w < 256) (ht : t < 1024) : rDb (rPush R wf w t q) wf (w + 1) B hd := by
  obtain ⟨⟨a1, a2, a3, a4⟩, b, c, ⟨d1, d2, d3, d4⟩, e, f, g⟩ := h
  refine ⟨⟨a1, a2, rfl, by omega⟩, fun k hk => ?_, fun u hu => ?_, ⟨d1, d3.cpy d2, d3, d4⟩, e, f, g⟩
  · show ∃ t', t' < 1024 ∧ upd (rA R 7) ((wf + w) % 256) (nI t) k = nI t'
    by_cases e : k = (wf + w) % 256
    · exact ⟨t, ht, by rw [e]; exact pk_us⟩
    · rw [pk_un e]
      exact b k hk
  · show upd (rA R 40) t (nI ((wf + w) % 256)) u = -1 ∨ ∃ v, v < 256 ∧ upd (rA R 40) t (nI ((wf + w) % 256)) u = nI v
    by_cases e : u = t
    · right
      exact ⟨_, Nat.mod_lt _ (by decide), by rw [e]; exact pk_us⟩
    · rw [pk_un e]
      exact c u hu
theorem rPop_ok {R : RfT} {wf w B hd b : Nat} {q : Bool} (h : rDb R wf w B hd) : rDb (rPop R wf b q) ((wf + 1) % 256) 255 B hd := by
  obtain ⟨⟨a1, a2, a3, a4⟩, b7, c, ⟨d1, d2, d3, d4⟩, e, f, g⟩ := h
  cases q
  · exact ⟨⟨rfl, Nat.mod_lt _ (by decide), rfl, by omega⟩, b7, c, ⟨d2.cpy d1, d2, d3, d4⟩, e, f, g⟩
  · refine ⟨⟨rfl, Nat.mod_lt _ (by decide), rfl, by omega⟩, b7, fun u hu => ?_, ⟨d2.cpy d1, d2, d3, d4⟩, e, f, g⟩
    show upd (rA R 40) b (-1) u = -1 ∨ ∃ v, v < 256 ∧ upd (rA R 40) b (-1) u = nI v
    by_cases e : u = b
    · left
      rw [e]
      exact pk_us
    · rw [pk_un e]
      exact c u hu
theorem rSt_ok {R : RfT} {wf w B hd : Nat} {v : Int32} (h : rDb R wf w B hd) : rDb (setS (rSt R) 13 v) wf w B hd := by
  obtain ⟨⟨a1, a2, a3, a4⟩, b, c, ⟨d1, d2, d3, d4⟩, e, f, g⟩ := h
  exact ⟨⟨a1, a2, a3, a4⟩, b, c, ⟨d1, d2, d3, d4⟩, e, f, g⟩
theorem rWrt_ok {R : RfT} {wf w B hd b t q : Nat} (h : rDb R wf w B hd) (ht : t < 1024) : rDb (rWrt R wf w b t q) (if w = 256 then (wf + 1) % 256 else wf) (if w = 256 then 256 else w + 1) B hd := by
  unfold rWrt
  split
  · exact rPush_ok (rPop_ok (rSt_ok h)) (by decide) ht
  · next e => exact rPush_ok (rSt_ok h) (by have := h.1.2.2.2; omega) ht
/-- what a write leaves as it is -/
theorem rWrt_A {R : RfT} {wf w b t q j : Nat} (h6 : j ≠ 6) (h7 : j ≠ 7) (h8 : j ≠ 8) (h40 : j ≠ 40) : rA (rWrt R wf w b t q) j = rA R j := by
  have e : ∀ {X : RfT} {i : Nat} {x : Nat → Int32}, j ≠ i → rA (setA X i x) j = rA X j := fun h => if_neg h
  unfold rWrt
  split
  · unfold rPush rPop
    cases (decide (rA R 40 b = nI wf)) <;> simp only [cond, e h6, e h7, e h8, e h40] <;> try rfl
  · unfold rPush
    simp only [e h6, e h7, e h8, e h40]
    try rfl
theorem rWrt_S {R : RfT} {wf w b t q j : Nat} (h9 : j ≠ 9) (h10 : j ≠ 10) (h12 : j ≠ 12) (h13 : j ≠ 13) : rS (rWrt R wf w b t q) j = rS R j := by
  have e : ∀ {X : RfT} {i : Nat} {x : Int32}, j ≠ i → rS (setS X i x) j = rS X j := fun h => pk_un h
  unfold rWrt
  split
  · unfold rPush rPop rSt
    cases (decide (rA R 40 b = nI wf)) <;> simp only [cond, e h9, e h10, e h12, e h13] <;> try rfl
  · unfold rPush rSt
    simp only [e h9, e h10, e h12, e h13]
    try rfl
theorem rWrt_12 {R : RfT} {wf w b t q : Nat} : rS (rWrt R wf w b t q) 12 = rS (rSt R) 12 := by
  unfold rWrt
  split
  · cases h : (decide (rA R 40 b = nI wf)) <;> rfl
  · rfl
theorem rWrt_LW {R : RfT} {wf w b t q : Nat} : rLW (rWrt R wf w b t q) = rLW R ∧ rWh (rWrt R wf w b t q) = rWh R := by
  unfold rWrt
  split
  · cases h : (decide (rA R 40 b = nI wf)) <;> exact ⟨rfl, rfl⟩
  · exact ⟨rfl, rfl⟩
theorem rWk_wrt {R : RfT} {wf w b t q n : Nat} (h : rWk R n) : rWk (rWrt R wf w b t q) n := by
  obtain ⟨h1, h2, h3⟩ := h
  refine ⟨h1, ?_, ?_⟩
  · rw [rWrt_S (by decide) (by decide) (by decide) (by decide)]
    exact h2
  · rw [rWrt_A (by decide) (by decide) (by decide) (by decide)]
    exact h3
theorem setA2 {R : RfT} {i j : Nat} {a b a' b' : Nat → Int32} (h : i ≠ j) : setA (setA (setA (setA R i a) j b) i a') j b' = setA (setA R i a') j b' := by
  show (R.1, R.2.1, R.2.2.1, R.2.2.2.1, va_up (va_up (va_up (va_up R.2.2.2.2.1 i a) j b) i a') j b', R.2.2.2.2.2) = (R.1, R.2.1, R.2.2.1, R.2.2.2.1, va_up (va_up R.2.2.2.2.1 i a') j b', R.2.2.2.2.2)
  congr 5
  funext k
  unfold va_up
  by_cases e1 : k = j
  · simp [e1]
  · by_cases e2 : k = i
    · simp [e1, e2]
    · simp [e1, e2]
/-- all that wait are synced -/
def sy6 (A8 A7 A6 : Nat → Int32) (wf : Nat) : Nat → Nat → Int32
  | 0 => A6
  | i + 1 => va_cpy A8 (sy6 A8 A7 A6 wf i) (128 * ((wf + i) % 256)) (128 * (A7 ((wf + i) % 256)).toNatClampNeg) 128
def sy40 (A7 A40 : Nat → Int32) (wf : Nat) : Nat → Nat → Int32
  | 0 => A40
  | i + 1 => upd (sy40 A7 A40 wf i) (A7 ((wf + i) % 256)).toNatClampNeg (-1)
def rSy (R : RfT) (wf i : Nat) : RfT := setA (setA (setS (rSt R) 14 (rS R 14 + 1)) 6 (sy6 (rA R 8) (rA R 7) (rA R 6) wf i)) 40 (sy40 (rA R 7) (rA R 40) wf i)
def rSyn (R : RfT) (wf w : Nat) : RfT := setS (rSy R wf w) 10 0
theorem sy6_b {A8 A7 A6 : Nat → Int32} {wf : Nat} (h8 : Byt A8) (h6 : Byt A6) : ∀ i, Byt (sy6 A8 A7 A6 wf i)
  | 0 => h6
  | i + 1 => h8.cpy (sy6_b h8 h6 i)
theorem sy40_ok {A7 A40 : Nat → Int32} {wf t : Nat} (h : A40 t = -1 ∨ ∃ u, u < 256 ∧ A40 t = nI u) : ∀ i, sy40 A7 A40 wf i t = -1 ∨ ∃ u, u < 256 ∧ sy40 A7 A40 wf i t = nI u
  | 0 => h
  | i + 1 => by
    show upd (sy40 A7 A40 wf i) _ (-1) t = -1 ∨ ∃ u, u < 256 ∧ upd (sy40 A7 A40 wf i) _ (-1) t = nI u
    by_cases e : t = (A7 ((wf + i) % 256)).toNatClampNeg
    · left
      rw [e]
      exact pk_us
    · rw [pk_un e]
      exact sy40_ok h i
theorem rSyn_ok {R : RfT} {wf w B hd : Nat} (h : rDb R wf w B hd) : rDb (rSyn R wf w) wf 0 B hd := by
  obtain ⟨⟨a1, a2, a3, a4⟩, b, c, ⟨d1, d2, d3, d4⟩, e, f, g⟩ := h
  exact ⟨⟨a1, a2, rfl, by omega⟩, b, fun t ht => sy40_ok (c t ht) w, ⟨sy6_b d2 d1 w, d2, d3, d4⟩, e, f, g⟩
def tb_X12_syncDisk : List (Nat × Instr × Nat) := [(0, .aload_n 0, 1), (1, .invokevirtual 177, 3), (4, .ifCond .ne 4, 3), (7, .return_, 1), (8, .aload_n 0, 1), (9, .dup, 1), (10, .getfield 194, 3), (13, .iconst 1, 1), (14, .iadd, 1), (15, .putfield 194, 3), (18, .iconst 0, 1), (19, .istore_n 1, 1), (20, .iload_n 1, 1), (21, .aload_n 0, 1), (22, .getfield 184, 3), (25, .if_icmp .ge 58, 3), (28, .aload_n 0, 1), (29, .getfield 187, 3), (32, .iload_n 1, 1), (33, .iadd, 1), (34, .sipush 256, 3), (37, .irem, 1), (38, .istore_n 2, 1), (39, .aload_n 0, 1), (40, .getfield 22, 3), (43, .sipush 128, 3), (46, .iload_n 2, 1), (47, .imul, 1), (48, .aload_n 0, 1), (49, .getfield 14, 3), (52, .sipush 128, 3), (55, .aload_n 0, 1), (56, .getfield 17, 3), (59, .iload_n 2, 1), (60, .iaload, 1), (61, .imul, 1), (62, .invokestatic 190, 3), (65, .aload_n 0, 1), (66, .getfield 83, 3), (69, .aload_n 0, 1), (70, .getfield 17, 3), (73, .iload_n 2, 1), (74, .iaload, 1), (75, .iconst (-1), 1), (76, .iastore, 1), (77, .iinc 1 1, 3), (80, .goto (-60), 3), (83, .aload_n 0, 1), (84, .iconst 0, 1), (85, .putfield 184, 3), (88, .return_, 1)]
theorem tv_X12_syncDisk : Tv cX12_syncDisk tb_X12_syncDisk := by
  unfold Tv
  decide +kernel
set_option maxRecDepth 100000 in
set_option maxHeartbeats 4000000 in
theorem sy_loop (E : gE) (f0 : Nat → va_E) (sz : Nat) (A : Nat → Prop) (Q : gQ) (hE : 94 ≤ gN E) (R : RfT) (wf w B hd : Nat) (hd0 : rDb R wf w B hd) (kq : ∀ g, RfV E g (rSy R wf w) → Fr RfK f0 g → G E (4, yX12_syncDisk, 3, none, sz, A) cX12_syncDisk (gO E (4, yX12_syncDisk, 3, none, sz, A) Q) 83 [(0, .ref (gAd E (56))), (1, .int (nI (w)))] [] g) : ∀ (d j : Nat), j + d = w → ∀ f, RfV E f (rSy R wf j) → Fr RfK f0 f → G E (4, yX12_syncDisk, 3, none, sz, A) cX12_syncDisk (gO E (4, yX12_syncDisk, 3, none, sz, A) Q) 20 [(0, .ref (gAd E (56))), (1, .int (nI (j)))] [] f := by
  obtain ⟨⟨hwf, hwf2, hnw, hnw2⟩, h7, h40, ⟨hb6, hb8, hb17, hb44⟩, ⟨hB, hB4, hB64, hh, hhB⟩, h15, h39⟩ := id hd0
  intro d
  induction d with
  | zero =>
    intro j e f r hf
    have e : j = w := e
    refine G.go tv_X12_syncDisk 2 22 [(0, .ref (gAd E (56))), (1, .int (nI (j)))] [.ref (gAd E (56)), .int (nI (j))] rfl ?_
    refine G.rg r hE 10 (.int (rS R 10)) (by decide) rfl (tbd tv_X12_syncDisk rfl) w_2075 ?_
    refine G.eqs [.int (nI w), .int (nI (j))] (by rw [hnw]) ?_
    refine G.cmp_ge 83 (tbd tv_X12_syncDisk rfl) (by decide) (fun c25 => ?_) (fun c25 => absurd (by rw [e]; exact nI_le (Nat.le_refl _) (by omega)) c25)
    refine G.eql [(0, .ref (gAd E (56))), (1, .int (nI (w)))] (by rw [e]) ?_
    exact kq _ (e ▸ r) hf
  | succ d ih =>
    intro j e f r hf
    obtain ⟨b, hb1, hb⟩ := h7 ((wf + j) % 256) (Nat.mod_lt _ (by decide))
    refine G.go tv_X12_syncDisk 2 22 [(0, .ref (gAd E (56))), (1, .int (nI (j)))] [.ref (gAd E (56)), .int (nI (j))] rfl ?_
    refine G.rg r hE 10 (.int (rS R 10)) (by decide) rfl (tbd tv_X12_syncDisk rfl) w_2075 ?_
    refine G.eqs [.int (nI w), .int (nI (j))] (by rw [hnw]) ?_
    refine G.cmp_ge 83 (tbd tv_X12_syncDisk rfl) (by decide) (fun c25 => absurd c25 (nI_ge (by omega) (by omega))) (fun c25 => ?_)
    refine G.go tv_X12_syncDisk 1 29 [(0, .ref (gAd E (56))), (1, .int (nI (j)))] [.ref (gAd E (56))] rfl ?_
    refine G.rg r hE 9 (.int (rS R 9)) (by decide) rfl (tbd tv_X12_syncDisk rfl) w_2074 ?_
    refine G.eqs [.int (nI wf)] (by rw [hwf]) ?_
    refine G.go tv_X12_syncDisk 3 37 [(0, .ref (gAd E (56))), (1, .int (nI (j)))] [.int ((256 : Int32)), .int ((nI wf) + (nI (j)))] rfl ?_
    refine G.irem (by decide) (tbd tv_X12_syncDisk rfl) ?_
    refine G.eqs [.int (nI ((wf + j) % 256))] (by rw [nI_add, show (256 : Int32) = nI 256 from rfl, pk_rem (by omega) (by omega) (by omega)]) ?_
    refine G.go tv_X12_syncDisk 2 40 [(0, .ref (gAd E (56))), (1, .int (nI (j))), (2, .int (nI ((wf + j) % 256)))] [.ref (gAd E (56))] rfl ?_
    refine G.rg r hE 8 (.ref (gAd E (60))) (by decide) rfl (tbd tv_X12_syncDisk rfl) w_2073 ?_
    refine G.go tv_X12_syncDisk 4 49 [(0, .ref (gAd E (56))), (1, .int (nI (j))), (2, .int (nI ((wf + j) % 256)))] [.ref (gAd E (56)), .int (((128 : Int32)) * (nI ((wf + j) % 256))), .ref (gAd E (60))] rfl ?_
    refine G.rg r hE 6 (.ref (gAd E (58))) (by decide) rfl (tbd tv_X12_syncDisk rfl) w_2071 ?_
    refine G.go tv_X12_syncDisk 2 56 [(0, .ref (gAd E (56))), (1, .int (nI (j))), (2, .int (nI ((wf + j) % 256)))] [.ref (gAd E (56)), .int ((128 : Int32)), .ref (gAd E (58)), .int (((128 : Int32)) * (nI ((wf + j) % 256))), .ref (gAd E (60))] rfl ?_
    refine G.rg r hE 7 (.ref (gAd E (59))) (by decide) rfl (tbd tv_X12_syncDisk rfl) w_2072 ?_
    refine G.go tv_X12_syncDisk 1 60 [(0, .ref (gAd E (56))), (1, .int (nI (j))), (2, .int (nI ((wf + j) % 256)))] [.int (nI ((wf + j) % 256)), .ref (gAd E (59)), .int ((128 : Int32)), .ref (gAd E (58)), .int (((128 : Int32)) * (nI ((wf + j) % 256))), .ref (gAd E (60))] rfl ?_
    refine G.ialdN (59) ((wf + j) % 256) (by omega) (r.a7) (Nat.mod_lt _ (by decide)) (by decide) (tbd tv_X12_syncDisk rfl) ?_
    refine G.eqs [.int ((rA R 7) ((wf + j) % 256)), .int ((128 : Int32)), .ref (gAd E (58)), .int (((128 : Int32)) * (nI ((wf + j) % 256))), .ref (gAd E (60))] rfl ?_
    refine G.eqs [.int (nI b), .int ((128 : Int32)), .ref (gAd E (58)), .int (((128 : Int32)) * (nI ((wf + j) % 256))), .ref (gAd E (60))] (by rw [hb]) ?_
    refine G.go tv_X12_syncDisk 1 62 [(0, .ref (gAd E (56))), (1, .int (nI (j))), (2, .int (nI ((wf + j) % 256)))] [.int (((128 : Int32)) * (nI b)), .ref (gAd E (58)), .int (((128 : Int32)) * (nI ((wf + j) % 256))), .ref (gAd E (60))] rfl ?_
    refine G.eqs [.int (nI (128 * b)), .ref (gAd E (58)), .int (nI (128 * ((wf + j) % 256))), .ref (gAd E (60))] (by rw [show (128 : Int32) = nI 128 from rfl, pk_mul, pk_mul]) ?_
    refine G.callS [.ref (gAd E (60)), .int (nI (128 * ((wf + j) % 256))), .ref (gAd E (58)), .int (nI (128 * b))] [] (c_X12_move E _ 60 32768 58 131072 (rA R 8) (sy6 (rA R 8) (rA R 7) (rA R 6) wf j) (128 * ((wf + j) % 256)) (128 * b) (by omega) (by omega) (by decide) r.a8 (by decide) (by decide) (by have := Nat.mod_lt (wf + j) (by decide : 0 < 256); omega) (by omega) hb8 r.a6) cw_X12_190 w_2307 (Nat.le_of_ble_eq_true rfl) rfl (Nat.le_of_ble_eq_true rfl) (tbd tv_X12_syncDisk rfl) (fun v1 f1 q1 => ?_) (fun _ _ h => h.elim)
    obtain ⟨rfl, ea1⟩ := q1
    refine G.eqs [] rfl ?_
    have ra1 : RfV E f1 (setA (setA (setA (setS (rSt R) 14 (rS R 14 + 1)) 6 (sy6 (rA R 8) (rA R 7) (rA R 6) wf j)) 40 (sy40 (rA R 7) (rA R 40) wf j)) 6 (va_cpy (rA R 8) (sy6 (rA R 8) (rA R 7) (rA R 6) wf j) (128 * ((wf + j) % 256)) (128 * b) 128)) := RfV.ar (r.p6 _) ea1
    have fa1 : Fr RfK f f1 := Fr.ar ⟨by decide, by decide⟩ ea1
    refine G.go tv_X12_syncDisk 1 66 [(0, .ref (gAd E (56))), (1, .int (nI (j))), (2, .int (nI ((wf + j) % 256)))] [.ref (gAd E (56))] rfl ?_
    refine G.rg ra1 hE 40 (.ref (gAd E (77))) (by decide) rfl (tbd tv_X12_syncDisk rfl) w_2105 ?_
    refine G.go tv_X12_syncDisk 1 70 [(0, .ref (gAd E (56))), (1, .int (nI (j))), (2, .int (nI ((wf + j) % 256)))] [.ref (gAd E (56)), .ref (gAd E (77))] rfl ?_
    refine G.rg ra1 hE 7 (.ref (gAd E (59))) (by decide) rfl (tbd tv_X12_syncDisk rfl) w_2072 ?_
    refine G.go tv_X12_syncDisk 1 74 [(0, .ref (gAd E (56))), (1, .int (nI (j))), (2, .int (nI ((wf + j) % 256)))] [.int (nI ((wf + j) % 256)), .ref (gAd E (59)), .ref (gAd E (77))] rfl ?_
    refine G.ialdN (59) ((wf + j) % 256) (by omega) (ra1.a7) (Nat.mod_lt _ (by decide)) (by decide) (tbd tv_X12_syncDisk rfl) ?_
    refine G.eqs [.int ((rA R 7) ((wf + j) % 256)), .ref (gAd E (77))] rfl ?_
    refine G.eqs [.int (nI b), .ref (gAd E (77))] (by rw [hb]) ?_
    refine G.go tv_X12_syncDisk 1 76 [(0, .ref (gAd E (56))), (1, .int (nI (j))), (2, .int (nI ((wf + j) % 256)))] [.int ((-1 : Int32)), .int (nI b), .ref (gAd E (77))] rfl ?_
    refine G.raI (b) hE ⟨by decide, by decide⟩ ra1.a40 (ra1.p40 _) (hb1) (by decide) (tbd tv_X12_syncDisk rfl) (fun u1 r1 h1 => ?_)
    refine G.go tv_X12_syncDisk 2 20 [(0, .ref (gAd E (56))), (1, .int (nI (j) + (1 : Int32))), (2, .int (nI ((wf + j) % 256)))] [] rfl ?_
    refine G.less [(0, .ref (gAd E (56))), (1, .int (nI (j) + (1 : Int32)))] [0, 1] rfl ?_
    refine G.eql [(0, .ref (gAd E (56))), (1, .int (nI (j + 1)))] (by rw [nI_1]) ?_
    exact ih (j + 1) (by omega) _ (by have q : RfV E u1 (setA (setA (setA (setA (setS (rSt R) 14 (rS R 14 + 1)) 6 (sy6 (rA R 8) (rA R 7) (rA R 6) wf j)) 40 (sy40 (rA R 7) (rA R 40) wf j)) 6 (va_cpy (rA R 8) (sy6 (rA R 8) (rA R 7) (rA R 6) wf j) (128 * ((wf + j) % 256)) (128 * b) 128)) 40 (upd (sy40 (rA R 7) (rA R 40) wf j) (b) ((-1 : Int32)))) := r1; rw [setA2 (by decide), show b = (rA R 7 ((wf + j) % 256)).toNatClampNeg from by rw [hb, nI_clamp (by omega)]] at q; exact q) (((hf).tr fa1 (fun _ h => h)).tr h1 (fun _ h => h))
set_option maxRecDepth 100000 in
set_option maxHeartbeats 4000000 in
theorem c_X12_syncDisk (E : gE) (f : Nat → va_E) (R : RfT) (wf w B hd n : Nat) (hd0 : rDb R wf w B hd) (hk0 : rWk R n) (hE : 94 ≤ gN E) (r : RfV E f R) : Ct E 4 yX12_syncDisk cX12_syncDisk 3 none [.ref (gAd E (56))] f (fun v g => (¬ rCan R ∧ v = none ∧ RfV E g (rNo R n) ∧ Fr RfK f g) ∨ (rCan R ∧ v = none ∧ RfV E g (rSyn R wf w) ∧ Fr RfK f g), fun _ _ => False) := by
  obtain ⟨⟨hwf, hwf2, hnw, hnw2⟩, h7, h40, ⟨hb6, hb8, hb17, hb44⟩, ⟨hB, hB4, hB64, hh, hhB⟩, h15, h39⟩ := id hd0
  obtain ⟨hn, hwn, hwb⟩ := id hk0
  refine Ct.of (by decide) (Nat.le_of_ble_eq_true rfl) (fun sz => ?_)
  refine G.eql [(0, .ref (gAd E (56)))] rfl ?_
  refine G.go tv_X12_syncDisk 1 1 [(0, .ref (gAd E (56)))] [.ref (gAd E (56))] rfl ?_
  refine G.callV (56) [] [] (c_X12_stepped E _ (R) n hk0 hE r) cls_X12 (by omega) (r.o) cw_X12_177 w_2292 w_59 (Nat.le_of_ble_eq_true rfl) rfl (Nat.le_of_ble_eq_true rfl) (tbd tv_X12_syncDisk rfl) (fun v1 f1 q1 => ?_) (fun _ _ h => h.elim)
  rcases q1 with ⟨hc, rfl, ra1, fa1⟩ | ⟨hc, rfl, ra1, fa1⟩
  · skip
    refine G.eqs [.int ((0 : Int32))] rfl ?_
    refine G.if_ne 8 (tbd tv_X12_syncDisk rfl) (by decide) (fun c4 => absurd (by decide) c4) (fun c4 => ?_)
    exact G.vret rfl (Or.inl ⟨hc, rfl, ra1, fa1⟩) (tbd tv_X12_syncDisk rfl)
  · skip
    refine G.eqs [.int ((1 : Int32))] rfl ?_
    refine G.if_ne 8 (tbd tv_X12_syncDisk rfl) (by decide) (fun c4 => ?_) (fun c4 => absurd c4 (by decide))
    refine G.go tv_X12_syncDisk 2 10 [(0, .ref (gAd E (56)))] [.ref (gAd E (56)), .ref (gAd E (56))] rfl ?_
    refine G.rg ra1 hE 14 (.int (rS R 14)) (by decide) rfl (tbd tv_X12_syncDisk rfl) w_2079 ?_
    refine G.go tv_X12_syncDisk 2 15 [(0, .ref (gAd E (56)))] [.int ((rS R 14) + ((1 : Int32))), .ref (gAd E (56))] rfl ?_
    refine G.rp ra1 hE 14 (setS (rSt (R)) 14 ((rS R 14) + ((1 : Int32)))) rfl rfl (by decide) rfl rfl rfl (tbd tv_X12_syncDisk rfl) w_2079 (fun u3 r3 h3 => ?_)
    refine G.go tv_X12_syncDisk 2 20 [(0, .ref (gAd E (56))), (1, .int ((0 : Int32)))] [] rfl ?_
    refine sy_loop E f _ _ _ hE R wf w B hd hd0 ?_ w 0 (by omega) _ (RfV.cast r3 (by show _ = setA (setA (setS (rSt R) 14 (rS R 14 + 1)) 6 (rA (setS (rSt R) 14 (rS R 14 + 1)) 6)) 40 (rA (setS (rSt R) 14 (rS R 14 + 1)) 40); rw [setA_id, setA_id])) ((fa1).tr h3 (fun _ h => h))
    intro u0 r0 h0
    refine G.go tv_X12_syncDisk 2 85 [(0, .ref (gAd E (56))), (1, .int (nI (w)))] [.int ((0 : Int32)), .ref (gAd E (56))] rfl ?_
    refine G.rp r0 hE 10 (setS (rSy R wf w) 10 ((0 : Int32))) rfl rfl (by decide) rfl rfl rfl (tbd tv_X12_syncDisk rfl) w_2075 (fun u2 r2 h2 => ?_)
    exact G.vret rfl (Or.inr ⟨hc, rfl, r2, (h0).tr h2 (fun _ h => h)⟩) (tbd tv_X12_syncDisk rfl)
/-- the held value k goes; the last one comes to its place -/
def rLv (R : RfT) (hd k b b2 : Nat) : RfT := if k < hd - 1 then setA (setA (setLW (setA (setA (setS R 18 (nI (hd - 1))) 39 (upd (rA R 39) b (-1))) 15 (upd (rA R 15) k (nI b2))) (vp_updL (rLW R) k (rLW R (hd - 1)))) 17 (va_cpy (rA R 17) (rA R 17) (128 * (hd - 1)) (128 * k) 128)) 39 (upd (upd (rA R 39) b (-1)) b2 (nI k)) else setA (setS R 18 (nI (hd - 1))) 39 (upd (rA R 39) b (-1))
theorem rLv_ok {R : RfT} {wf w B hd k b b2 : Nat} (h : rDb R wf w B hd) (hk : k < hd) (hb : rA R 15 k = nI b) (hb1 : b < 1024) (h2 : rA R 15 (hd - 1) = nI b2) (hb2 : b2 < 1024) : rDb (rLv R hd k b b2) wf w B (hd - 1) := by
  obtain ⟨⟨a1, a2, a3, a4⟩, b7, c, ⟨d1, d2, d3, d4⟩, ⟨e1, e2, e3, e4, e5⟩, f, g⟩ := h
  have inj : ∀ {x y : Nat}, x < 1024 → y < 1024 → nI x = nI y → x = y := fun hx hy q => (nI_eq (by omega) (by omega)).mp q
  unfold rLv
  split
  · next hlt =>
    refine ⟨⟨a1, a2, a3, a4⟩, b7, c, ⟨d1, d2, d3.cpy d3, d4⟩, ⟨e1, e2, e3, rfl, by omega⟩, fun m hm => ?_, fun t ht => ?_⟩
    · show ∃ t, t < 1024 ∧ upd (rA R 15) k (nI b2) m = nI t
      by_cases e : m = k
      · exact ⟨b2, hb2, by rw [e]; exact pk_us⟩
      · rw [pk_un e]
        exact f m hm
    · show upd (upd (rA R 39) b (-1)) b2 (nI k) t = -1 ∨ ∃ m, m < hd - 1 ∧ upd (upd (rA R 39) b (-1)) b2 (nI k) t = nI m ∧ upd (rA R 15) k (nI b2) m = nI t
      by_cases q2 : t = b2
      · right
        exact ⟨k, hlt, by rw [q2]; exact pk_us, by rw [q2]; exact pk_us⟩
      · rw [pk_un q2]
        by_cases q1 : t = b
        · left
          rw [q1]
          exact pk_us
        · rw [pk_un q1]
          rcases g t ht with h9 | ⟨m, m1, m2, m3⟩
          · exact Or.inl h9
          · right
            have n1 : m ≠ k := fun q => q1 (inj ht hb1 (by rw [← m3, q, hb]))
            have n2 : m ≠ hd - 1 := fun q => q2 (inj ht hb2 (by rw [← m3, q, h2]))
            exact ⟨m, by omega, m2, by rw [pk_un n1]; exact m3⟩
  · next hlt =>
    refine ⟨⟨a1, a2, a3, a4⟩, b7, c, ⟨d1, d2, d3, d4⟩, ⟨e1, e2, e3, rfl, by omega⟩, f, fun t ht => ?_⟩
    show upd (rA R 39) b (-1) t = -1 ∨ ∃ m, m < hd - 1 ∧ upd (rA R 39) b (-1) t = nI m ∧ rA R 15 m = nI t
    by_cases q1 : t = b
    · left
      rw [q1]
      exact pk_us
    · rw [pk_un q1]
      rcases g t ht with h9 | ⟨m, m1, m2, m3⟩
      · exact Or.inl h9
      · right
        have n1 : m ≠ k := fun q => q1 (inj ht hb1 (by rw [← m3, q, hb]))
        exact ⟨m, by omega, m2, m3⟩
theorem rLv_S {R : RfT} {hd k b b2 j : Nat} (h : j ≠ 18) : rS (rLv R hd k b b2) j = rS R j := by
  unfold rLv
  split <;> exact pk_un h
theorem rLv_A {R : RfT} {hd k b b2 j : Nat} (h1 : j ≠ 39) (h2 : j ≠ 15) (h3 : j ≠ 17) : rA (rLv R hd k b b2) j = rA R j := by
  have e : ∀ {X : RfT} {i : Nat} {x : Nat → Int32}, j ≠ i → rA (setA X i x) j = rA X j := fun h => if_neg h
  unfold rLv
  split
  · rw [e h1, e h3]
    exact (e h2).trans ((e h1).trans rfl)
  · exact e h1
theorem rWk_lv {R : RfT} {hd k b b2 n : Nat} (h : rWk R n) : rWk (rLv R hd k b b2) n := by
  obtain ⟨h1, h2, h3⟩ := h
  refine ⟨h1, ?_, ?_⟩
  · rw [rLv_S (by decide)]
    exact h2
  · rw [rLv_A (by decide) (by decide) (by decide)]
    exact h3
def tb_X12_leave : List (Nat × Instr × Nat) := [(0, .aload_n 0, 1), (1, .dup, 1), (2, .getfield 159, 3), (5, .iconst 1, 1), (6, .isub, 1), (7, .putfield 159, 3), (10, .aload_n 0, 1), (11, .getfield 80, 3), (14, .aload_n 0, 1), (15, .getfield 33, 3), (18, .iload_n 1, 1), (19, .iaload, 1), (20, .iconst (-1), 1), (21, .iastore, 1), (22, .iload_n 1, 1), (23, .aload_n 0, 1), (24, .getfield 159, 3), (27, .if_icmp .ge 69, 3), (30, .aload_n 0, 1), (31, .getfield 33, 3), (34, .iload_n 1, 1), (35, .aload_n 0, 1), (36, .getfield 33, 3), (39, .aload_n 0, 1), (40, .getfield 159, 3), (43, .iaload, 1), (44, .iastore, 1), (45, .aload_n 0, 1), (46, .getfield 36, 3), (49, .iload_n 1, 1), (50, .aload_n 0, 1), (51, .getfield 36, 3), (54, .aload_n 0, 1), (55, .getfield 159, 3), (58, .laload, 1), (59, .lastore, 1), (60, .aload_n 0, 1), (61, .getfield 40, 3), (64, .sipush 128, 3), (67, .aload_n 0, 1), (68, .getfield 159, 3), (71, .imul, 1), (72, .aload_n 0, 1), (73, .getfield 40, 3), (76, .sipush 128, 3), (79, .iload_n 1, 1), (80, .imul, 1), (81, .invokestatic 190, 3), (84, .aload_n 0, 1), (85, .getfield 80, 3), (88, .aload_n 0, 1), (89, .getfield 33, 3), (92, .iload_n 1, 1), (93, .iaload, 1), (94, .iload_n 1, 1), (95, .iastore, 1), (96, .return_, 1)]
theorem tv_X12_leave : Tv cX12_leave tb_X12_leave := by
  unfold Tv
  decide +kernel
theorem w_2080 : Cond.fieldLink "LedgerFilesModel" 33 "LedgerFilesModel" "heldBlock" "[I" ∈ TB := tp_9 14 (by decide +kernel) rfl
theorem w_2081 : Cond.fieldLink "LedgerFilesModel" 36 "LedgerFilesModel" "heldWhen" "[J" ∈ TB := tp_9 15 (by decide +kernel) rfl
theorem w_2082 : Cond.fieldLink "LedgerFilesModel" 40 "LedgerFilesModel" "heldValue" "[B" ∈ TB := tp_9 16 (by decide +kernel) rfl
set_option maxRecDepth 100000 in
set_option maxHeartbeats 4000000 in
theorem c_X12_leave (E : gE) (f : Nat → va_E) (R : RfT) (wf w B hd : Nat) (hd0 : rDb R wf w B hd) (hE : 94 ≤ gN E) (r : RfV E f R) (k b b2 : Nat) (hk : k < hd) (hb : rA R 15 k = nI b) (hb1 : b < 1024) (h2 : rA R 15 (hd - 1) = nI b2) (hb2 : b2 < 1024) : Ct E 2 yX12_leave cX12_leave 2 none [.ref (gAd E (56)), .int (nI k)] f (fun v g => v = none ∧ RfV E g (rLv R hd k b b2) ∧ Fr RfK f g, fun _ _ => False) := by
  obtain ⟨⟨hwf, hwf2, hnw, hnw2⟩, h7, h40, ⟨hb6, hb8, hb17, hb44⟩, ⟨hB, hB4, hB64, hh, hhB⟩, h15, h39⟩ := id hd0
  refine Ct.of (by decide) (Nat.le_of_ble_eq_true rfl) (fun sz => ?_)
  refine G.eql [(0, .ref (gAd E (56))), (1, .int (nI k))] rfl ?_
  refine G.go tv_X12_leave 2 2 [(0, .ref (gAd E (56))), (1, .int (nI k))] [.ref (gAd E (56)), .ref (gAd E (56))] rfl ?_
  refine G.rg r hE 18 (.int (rS R 18)) (by decide) rfl (tbd tv_X12_leave rfl) w_2083 ?_
  refine G.eqs [.int (nI hd), .ref (gAd E (56))] (by rw [hh]) ?_
  refine G.go tv_X12_leave 2 7 [(0, .ref (gAd E (56))), (1, .int (nI k))] [.int ((nI hd) - ((1 : Int32))), .ref (gAd E (56))] rfl ?_
  refine G.eqs [.int (nI (hd - 1)), .ref (gAd E (56))] (by rw [show (1 : Int32) = nI 1 from rfl, pk_sub (by omega)]) ?_
  refine G.rp r hE 18 (setS (R) 18 (nI (hd - 1))) rfl rfl (by decide) rfl rfl rfl (tbd tv_X12_leave rfl) w_2083 (fun u4 r4 h4 => ?_)
  refine G.go tv_X12_leave 1 11 [(0, .ref (gAd E (56))), (1, .int (nI k))] [.ref (gAd E (56))] rfl ?_
  refine G.rg r4 hE 39 (.ref (gAd E (76))) (by decide) rfl (tbd tv_X12_leave rfl) w_2104 ?_
  refine G.go tv_X12_leave 1 15 [(0, .ref (gAd E (56))), (1, .int (nI k))] [.ref (gAd E (56)), .ref (gAd E (76))] rfl ?_
  refine G.rg r4 hE 15 (.ref (gAd E (61))) (by decide) rfl (tbd tv_X12_leave rfl) w_2080 ?_
  refine G.go tv_X12_leave 1 19 [(0, .ref (gAd E (56))), (1, .int (nI k))] [.int (nI k), .ref (gAd E (61)), .ref (gAd E (76))] rfl ?_
  refine G.ialdN (61) (k) (by omega) (r4.a15) (by omega) (by decide) (tbd tv_X12_leave rfl) ?_
  refine G.eqs [.int ((rA R 15) (k)), .ref (gAd E (76))] rfl ?_
  refine G.eqs [.int (nI b), .ref (gAd E (76))] (by rw [hb]) ?_
  refine G.go tv_X12_leave 1 21 [(0, .ref (gAd E (56))), (1, .int (nI k))] [.int ((-1 : Int32)), .int (nI b), .ref (gAd E (76))] rfl ?_
  refine G.raI (b) hE ⟨by decide, by decide⟩ r4.a39 (r4.p39 _) (hb1) (by decide) (tbd tv_X12_leave rfl) (fun u5 r5 h5 => ?_)
  refine G.go tv_X12_leave 2 24 [(0, .ref (gAd E (56))), (1, .int (nI k))] [.ref (gAd E (56)), .int (nI k)] rfl ?_
  refine G.rg r5 hE 18 (.int (nI (hd - 1))) (by decide) rfl (tbd tv_X12_leave rfl) w_2083 ?_
  refine G.cmp_ge 96 (tbd tv_X12_leave rfl) (by decide) (fun c27 => ?_) (fun c27 => ?_)
  · skip
    have hlt : ¬ k < hd - 1 := fun q => absurd c27 (nI_ge q (by omega))
    exact G.vret rfl ⟨rfl, by unfold rLv; rw [if_neg hlt]; exact r5, (h4).tr h5 (fun _ h => h)⟩ (tbd tv_X12_leave rfl)
  · skip
    have hlt : k < hd - 1 := Nat.not_le.mp (fun q => c27 (nI_le q (by omega)))
    refine G.go tv_X12_leave 1 31 [(0, .ref (gAd E (56))), (1, .int (nI k))] [.ref (gAd E (56))] rfl ?_
    refine G.rg r5 hE 15 (.ref (gAd E (61))) (by decide) rfl (tbd tv_X12_leave rfl) w_2080 ?_
    refine G.go tv_X12_leave 2 36 [(0, .ref (gAd E (56))), (1, .int (nI k))] [.ref (gAd E (56)), .int (nI k), .ref (gAd E (61))] rfl ?_
    refine G.rg r5 hE 15 (.ref (gAd E (61))) (by decide) rfl (tbd tv_X12_leave rfl) w_2080 ?_
    refine G.go tv_X12_leave 1 40 [(0, .ref (gAd E (56))), (1, .int (nI k))] [.ref (gAd E (56)), .ref (gAd E (61)), .int (nI k), .ref (gAd E (61))] rfl ?_
    refine G.rg r5 hE 18 (.int (nI (hd - 1))) (by decide) rfl (tbd tv_X12_leave rfl) w_2083 ?_
    refine G.ialdN (61) (hd - 1) (by omega) (r5.a15) (by omega) (by decide) (tbd tv_X12_leave rfl) ?_
    refine G.eqs [.int ((rA R 15) (hd - 1)), .int (nI k), .ref (gAd E (61))] rfl ?_
    refine G.eqs [.int (nI b2), .int (nI k), .ref (gAd E (61))] (by rw [h2]) ?_
    refine G.raI (k) hE ⟨by decide, by decide⟩ r5.a15 (r5.p15 _) (by omega) (by decide) (tbd tv_X12_leave rfl) (fun u6 r6 h6 => ?_)
    refine G.go tv_X12_leave 1 46 [(0, .ref (gAd E (56))), (1, .int (nI k))] [.ref (gAd E (56))] rfl ?_
    refine G.rg r6 hE 16 (.ref (gAd E (62))) (by decide) rfl (tbd tv_X12_leave rfl) w_2081 ?_
    refine G.go tv_X12_leave 2 51 [(0, .ref (gAd E (56))), (1, .int (nI k))] [.ref (gAd E (56)), .int (nI k), .ref (gAd E (62))] rfl ?_
    refine G.rg r6 hE 16 (.ref (gAd E (62))) (by decide) rfl (tbd tv_X12_leave rfl) w_2081 ?_
    refine G.go tv_X12_leave 1 55 [(0, .ref (gAd E (56))), (1, .int (nI k))] [.ref (gAd E (56)), .ref (gAd E (62)), .int (nI k), .ref (gAd E (62))] rfl ?_
    refine G.rg r6 hE 18 (.int (nI (hd - 1))) (by decide) rfl (tbd tv_X12_leave rfl) w_2083 ?_
    refine G.laldN (62) (hd - 1) (by omega) (r6.a16) (by omega) (by decide) (tbd tv_X12_leave rfl) ?_
    refine G.raJ (k) hE ⟨by decide, by decide⟩ r6.a16 (r6.p16 _) (by omega) (by decide) (tbd tv_X12_leave rfl) (fun u7 r7 h7 => ?_)
    refine G.go tv_X12_leave 1 61 [(0, .ref (gAd E (56))), (1, .int (nI k))] [.ref (gAd E (56))] rfl ?_
    refine G.rg r7 hE 17 (.ref (gAd E (63))) (by decide) rfl (tbd tv_X12_leave rfl) w_2082 ?_
    refine G.go tv_X12_leave 2 68 [(0, .ref (gAd E (56))), (1, .int (nI k))] [.ref (gAd E (56)), .int ((128 : Int32)), .ref (gAd E (63))] rfl ?_
    refine G.rg r7 hE 18 (.int (nI (hd - 1))) (by decide) rfl (tbd tv_X12_leave rfl) w_2083 ?_
    refine G.go tv_X12_leave 2 73 [(0, .ref (gAd E (56))), (1, .int (nI k))] [.ref (gAd E (56)), .int (((128 : Int32)) * (nI (hd - 1))), .ref (gAd E (63))] rfl ?_
    refine G.rg r7 hE 17 (.ref (gAd E (63))) (by decide) rfl (tbd tv_X12_leave rfl) w_2082 ?_
    refine G.go tv_X12_leave 3 81 [(0, .ref (gAd E (56))), (1, .int (nI k))] [.int (((128 : Int32)) * (nI k)), .ref (gAd E (63)), .int (((128 : Int32)) * (nI (hd - 1))), .ref (gAd E (63))] rfl ?_
    refine G.eqs [.int (nI (128 * k)), .ref (gAd E (63)), .int (nI (128 * (hd - 1))), .ref (gAd E (63))] (by rw [show (128 : Int32) = nI 128 from rfl, pk_mul, pk_mul]) ?_
    refine G.callS [.ref (gAd E (63)), .int (nI (128 * (hd - 1))), .ref (gAd E (63)), .int (nI (128 * k))] [] (c_X12_moveD E _ 63 8192 (rA R 17) (128 * (hd - 1)) (128 * k) (by omega) (by decide) (by omega) (by omega) hb17 r7.a17) cw_X12_190 w_2307 (Nat.le_of_ble_eq_true rfl) rfl (Nat.le_of_ble_eq_true rfl) (tbd tv_X12_leave rfl) (fun v1 f1 q1 => ?_) (fun _ _ h => h.elim)
    obtain ⟨rfl, ea1⟩ := q1
    refine G.eqs [] rfl ?_
    have ra1 : RfV E f1 (setA (setLW (setA (setA (setS (R) 18 (nI (hd - 1))) 39 (upd (rA R 39) (b) ((-1 : Int32)))) 15 (upd (rA R 15) (k) (nI b2))) (vp_updL (rLW R) (k) ((rLW R) (hd - 1)))) 17 (va_cpy (rA R 17) (rA R 17) (128 * (hd - 1)) (128 * k) 128)) := RfV.ar (r7.p17 _) ea1
    have fa1 : Fr RfK u7 f1 := Fr.ar ⟨by decide, by decide⟩ ea1
    refine G.go tv_X12_leave 1 85 [(0, .ref (gAd E (56))), (1, .int (nI k))] [.ref (gAd E (56))] rfl ?_
    refine G.rg ra1 hE 39 (.ref (gAd E (76))) (by decide) rfl (tbd tv_X12_leave rfl) w_2104 ?_
    refine G.go tv_X12_leave 1 89 [(0, .ref (gAd E (56))), (1, .int (nI k))] [.ref (gAd E (56)), .ref (gAd E (76))] rfl ?_
    refine G.rg ra1 hE 15 (.ref (gAd E (61))) (by decide) rfl (tbd tv_X12_leave rfl) w_2080 ?_
    refine G.go tv_X12_leave 1 93 [(0, .ref (gAd E (56))), (1, .int (nI k))] [.int (nI k), .ref (gAd E (61)), .ref (gAd E (76))] rfl ?_
    refine G.ialdN (61) (k) (by omega) (ra1.a15) (by omega) (by decide) (tbd tv_X12_leave rfl) ?_
    refine G.eqs [.int ((upd (rA R 15) (k) (nI b2)) (k)), .ref (gAd E (76))] rfl ?_
    refine G.eqs [.int (nI b2), .ref (gAd E (76))] (by rw [pk_us]) ?_
    refine G.go tv_X12_leave 1 95 [(0, .ref (gAd E (56))), (1, .int (nI k))] [.int (nI k), .int (nI b2), .ref (gAd E (76))] rfl ?_
    refine G.raI (b2) hE ⟨by decide, by decide⟩ ra1.a39 (ra1.p39 _) (hb2) (by decide) (tbd tv_X12_leave rfl) (fun u8 r8 h8 => ?_)
    exact G.vret rfl ⟨rfl, by unfold rLv; rw [if_pos hlt]; exact r8, (((((h4).tr h5 (fun _ h => h)).tr h6 (fun _ h => h)).tr h7 (fun _ h => h)).tr fa1 (fun _ h => h)).tr h8 (fun _ h => h)⟩ (tbd tv_X12_leave rfl)
