def tb_X12_heldAt : List (Nat × Instr × Nat) := [(0, .aload_n 0, 1), (1, .getfield 80, 3), (4, .iload_n 1, 1), (5, .iaload, 1), (6, .ireturn, 1)]
theorem tv_X12_heldAt : Tv cX12_heldAt tb_X12_heldAt := by
  unfold Tv
  decide +kernel
set_option maxRecDepth 100000 in
set_option maxHeartbeats 4000000 in
theorem c_X12_heldAt (E : gE) (f : Nat → va_E) (R : RfT) (hE : 94 ≤ gN E) (r : RfV E f R) (t : Nat) (ht : t < 1024) : Ct E 1 yX12_heldAt cX12_heldAt 2 (some .int) [.ref (gAd E (56)), .int (nI t)] f (fun v g => v = some (.int (rA R 39 t)) ∧ RfV E g (R) ∧ Fr RfK f g, fun _ _ => False) := by
  refine Ct.of (by decide) (Nat.le_of_ble_eq_true rfl) (fun sz => ?_)
  refine G.eql [(0, .ref (gAd E (56))), (1, .int (nI t))] rfl ?_
  refine G.go tv_X12_heldAt 1 1 [(0, .ref (gAd E (56))), (1, .int (nI t))] [.ref (gAd E (56))] rfl ?_
  refine G.rg r hE 39 (.ref (gAd E (76))) (by decide) rfl (tbd tv_X12_heldAt rfl) w_2104 ?_
  refine G.go tv_X12_heldAt 1 5 [(0, .ref (gAd E (56))), (1, .int (nI t))] [.int (nI t), .ref (gAd E (76))] rfl ?_
  refine G.ialdN (76) (t) (by omega) (r.a39) (ht) (by decide) (tbd tv_X12_heldAt rfl) ?_
  exact G.iret rfl rfl (⟨rfl, r, Fr.rf⟩) (tbd tv_X12_heldAt rfl)
/-- the held place with the lowest block, of the first i -/
def rLow (A : Nat → Int32) : Nat → Int32
  | 0 => -1
  | i + 1 => if rLow A i = -1 ∨ A i < A (rLow A i).toNatClampNeg then nI i else rLow A i
theorem rLow_ix (A : Nat → Int32) : ∀ i, i < 2 ^ 31 → rLow A i = -1 ∨ ∃ m, m < i ∧ rLow A i = nI m
  | 0, _ => Or.inl rfl
  | i + 1, h => by
    unfold rLow
    split
    · exact Or.inr ⟨i, by omega, rfl⟩
    · rcases rLow_ix A i (by omega) with h9 | ⟨m, h1, h2⟩
      · exact Or.inl h9
      · exact Or.inr ⟨m, by omega, h2⟩
theorem rLow_some (A : Nat → Int32) {i : Nat} (h : 0 < i) (h31 : i < 2 ^ 31) : ∃ m, m < i ∧ rLow A i = nI m := by
  rcases rLow_ix A i h31 with h9 | h9
  · exfalso
    obtain ⟨k, rfl⟩ : ∃ k, i = k + 1 := ⟨i - 1, by omega⟩
    have q : ∀ m : Nat, m < 2 ^ 31 → ¬ nI m = -1 := fun m hm e => by
      have := nI_pos (n := m) hm
      rw [e] at this
      exact this (by decide)
    unfold rLow at h9
    split at h9
    · exact q k (by omega) h9
    · next hn => exact hn (Or.inl h9)
  · exact h9
theorem rLow_y {A : Nat → Int32} {i : Nat} (h : rLow A i = -1 ∨ A i < A (rLow A i).toNatClampNeg) : rLow A (i + 1) = nI i := (show rLow A (i + 1) = (if rLow A i = -1 ∨ A i < A (rLow A i).toNatClampNeg then nI i else rLow A i) from rfl).trans (if_pos h)
theorem rLow_n {A : Nat → Int32} {i : Nat} (h : ¬ (rLow A i = -1 ∨ A i < A (rLow A i).toNatClampNeg)) : rLow A (i + 1) = rLow A i := (show rLow A (i + 1) = (if rLow A i = -1 ∨ A i < A (rLow A i).toNatClampNeg then nI i else rLow A i) from rfl).trans (if_neg h)
def tb_X12_lowestHeld : List (Nat × Instr × Nat) := [(0, .iconst (-1), 1), (1, .istore_n 2, 1), (2, .iconst 0, 1), (3, .istore_n 3, 1), (4, .iload_n 3, 1), (5, .aload_n 0, 1), (6, .getfield 159, 3), (9, .if_icmp .ge 45, 3), (12, .aload_n 0, 1), (13, .getfield 33, 3), (16, .iload_n 3, 1), (17, .iaload, 1), (18, .iload_n 1, 1), (19, .if_icmp .lt 27, 3), (22, .iload_n 2, 1), (23, .iconst (-1), 1), (24, .if_icmp .eq 18, 3), (27, .aload_n 0, 1), (28, .getfield 33, 3), (31, .iload_n 3, 1), (32, .iaload, 1), (33, .aload_n 0, 1), (34, .getfield 33, 3), (37, .iload_n 2, 1), (38, .iaload, 1), (39, .if_icmp .ge 7, 3), (42, .iload_n 3, 1), (43, .goto 4, 3), (46, .iload_n 2, 1), (47, .istore_n 2, 1), (48, .iinc 3 1, 3), (51, .goto (-47), 3), (54, .iload_n 2, 1), (55, .ireturn, 1)]
theorem tv_X12_lowestHeld : Tv cX12_lowestHeld tb_X12_lowestHeld := by
  unfold Tv
  decide +kernel
set_option maxRecDepth 100000 in
set_option maxHeartbeats 4000000 in
theorem lh_loop (E : gE) (f0 : Nat → va_E) (sz : Nat) (A : Nat → Prop) (Q : gQ) (hE : 94 ≤ gN E) (R : RfT) (wf w B hd : Nat) (hd0 : rDb R wf w B hd) (kq : ∀ g, RfV E g (R) → Fr RfK f0 g → G E (1, yX12_lowestHeld, 4, (some .int), sz, A) cX12_lowestHeld (gO E (1, yX12_lowestHeld, 4, (some .int), sz, A) Q) 54 [(0, .ref (gAd E (56))), (1, .int ((0 : Int32))), (2, .int (rLow (rA R 15) (hd))), (3, .int (nI (hd)))] [] g) : ∀ (d j : Nat), j + d = hd → ∀ f, RfV E f (R) → Fr RfK f0 f → G E (1, yX12_lowestHeld, 4, (some .int), sz, A) cX12_lowestHeld (gO E (1, yX12_lowestHeld, 4, (some .int), sz, A) Q) 4 [(0, .ref (gAd E (56))), (1, .int ((0 : Int32))), (2, .int (rLow (rA R 15) (j))), (3, .int (nI (j)))] [] f := by
  obtain ⟨⟨hwf, hwf2, hnw, hnw2⟩, h7, h40, ⟨hb6, hb8, hb17, hb44⟩, ⟨hB, hB4, hB64, hh, hhB⟩, h15, h39⟩ := id hd0
  intro d
  induction d with
  | zero =>
    intro j e f r hf
    have e : j = hd := e
    refine G.go tv_X12_lowestHeld 2 6 [(0, .ref (gAd E (56))), (1, .int ((0 : Int32))), (2, .int (rLow (rA R 15) (j))), (3, .int (nI (j)))] [.ref (gAd E (56)), .int (nI (j))] rfl ?_
    refine G.rg r hE 18 (.int (rS R 18)) (by decide) rfl (tbd tv_X12_lowestHeld rfl) w_2083 ?_
    refine G.eqs [.int (nI hd), .int (nI (j))] (by rw [hh]) ?_
    refine G.cmp_ge 54 (tbd tv_X12_lowestHeld rfl) (by decide) (fun c9 => ?_) (fun c9 => absurd (by rw [e]; exact nI_le (Nat.le_refl _) (by omega)) c9)
    refine G.eql [(0, .ref (gAd E (56))), (1, .int ((0 : Int32))), (2, .int (rLow (rA R 15) (hd))), (3, .int (nI (hd)))] (by rw [e]) ?_
    exact kq _ (by first | exact r | exact e ▸ r) (hf)
  | succ d ih =>
    intro j e f r hf
    obtain ⟨b, hb1, hb⟩ := h15 j (by omega)
    refine G.go tv_X12_lowestHeld 2 6 [(0, .ref (gAd E (56))), (1, .int ((0 : Int32))), (2, .int (rLow (rA R 15) (j))), (3, .int (nI (j)))] [.ref (gAd E (56)), .int (nI (j))] rfl ?_
    refine G.rg r hE 18 (.int (rS R 18)) (by decide) rfl (tbd tv_X12_lowestHeld rfl) w_2083 ?_
    refine G.eqs [.int (nI hd), .int (nI (j))] (by rw [hh]) ?_
    refine G.cmp_ge 54 (tbd tv_X12_lowestHeld rfl) (by decide) (fun c9 => absurd c9 (nI_ge (by omega) (by omega))) (fun c9 => ?_)
    refine G.go tv_X12_lowestHeld 1 13 [(0, .ref (gAd E (56))), (1, .int ((0 : Int32))), (2, .int (rLow (rA R 15) (j))), (3, .int (nI (j)))] [.ref (gAd E (56))] rfl ?_
    refine G.rg r hE 15 (.ref (gAd E (61))) (by decide) rfl (tbd tv_X12_lowestHeld rfl) w_2080 ?_
    refine G.go tv_X12_lowestHeld 1 17 [(0, .ref (gAd E (56))), (1, .int ((0 : Int32))), (2, .int (rLow (rA R 15) (j))), (3, .int (nI (j)))] [.int (nI (j)), .ref (gAd E (61))] rfl ?_
    refine G.ialdN (61) (j) (by omega) (r.a15) (by omega) (by decide) (tbd tv_X12_lowestHeld rfl) ?_
    refine G.eqs [.int ((rA R 15) (j))] rfl ?_
    refine G.eqs [.int (nI b)] (by rw [hb]) ?_
    refine G.go tv_X12_lowestHeld 1 19 [(0, .ref (gAd E (56))), (1, .int ((0 : Int32))), (2, .int (rLow (rA R 15) (j))), (3, .int (nI (j)))] [.int ((0 : Int32)), .int (nI b)] rfl ?_
    refine G.cmp_lt 46 (tbd tv_X12_lowestHeld rfl) (by decide) (fun c19 => absurd c19 (nI_pos (by omega))) (fun c19 => ?_)
    refine G.go tv_X12_lowestHeld 2 24 [(0, .ref (gAd E (56))), (1, .int ((0 : Int32))), (2, .int (rLow (rA R 15) (j))), (3, .int (nI (j)))] [.int ((-1 : Int32)), .int (rLow (rA R 15) (j))] rfl ?_
    refine G.cmp_eq 42 (tbd tv_X12_lowestHeld rfl) (by decide) (fun c24 => ?_) (fun c24 => ?_)
    · skip
      refine G.go tv_X12_lowestHeld 5 4 [(0, .ref (gAd E (56))), (1, .int ((0 : Int32))), (2, .int (nI (j))), (3, .int (nI (j) + (1 : Int32)))] [] rfl ?_
      refine G.eql [(0, .ref (gAd E (56))), (1, .int ((0 : Int32))), (2, .int (rLow (rA R 15) (j + 1))), (3, .int (nI (j + 1)))] (by first | rw [rLow_y (Or.inl c24), nI_1] | rw [rLow_y (Or.inr (by rw [hbm, nI_clamp (by omega)]; exact Int32.not_le.mp c39)), nI_1]) ?_
      exact ih (j + 1) (by omega) _ (r) (hf)
    · skip
      obtain ⟨m, hm, hbm⟩ := (rLow_ix (rA R 15) j (by omega)).resolve_left c24
      refine G.go tv_X12_lowestHeld 1 28 [(0, .ref (gAd E (56))), (1, .int ((0 : Int32))), (2, .int (rLow (rA R 15) (j))), (3, .int (nI (j)))] [.ref (gAd E (56))] rfl ?_
      refine G.rg r hE 15 (.ref (gAd E (61))) (by decide) rfl (tbd tv_X12_lowestHeld rfl) w_2080 ?_
      refine G.go tv_X12_lowestHeld 1 32 [(0, .ref (gAd E (56))), (1, .int ((0 : Int32))), (2, .int (rLow (rA R 15) (j))), (3, .int (nI (j)))] [.int (nI (j)), .ref (gAd E (61))] rfl ?_
      refine G.ialdN (61) (j) (by omega) (r.a15) (by omega) (by decide) (tbd tv_X12_lowestHeld rfl) ?_
      refine G.go tv_X12_lowestHeld 1 34 [(0, .ref (gAd E (56))), (1, .int ((0 : Int32))), (2, .int (rLow (rA R 15) (j))), (3, .int (nI (j)))] [.ref (gAd E (56)), .int ((rA R 15) (j))] rfl ?_
      refine G.rg r hE 15 (.ref (gAd E (61))) (by decide) rfl (tbd tv_X12_lowestHeld rfl) w_2080 ?_
      refine G.go tv_X12_lowestHeld 1 38 [(0, .ref (gAd E (56))), (1, .int ((0 : Int32))), (2, .int (rLow (rA R 15) (j))), (3, .int (nI (j)))] [.int (rLow (rA R 15) (j)), .ref (gAd E (61)), .int ((rA R 15) (j))] rfl ?_
      refine G.eqs [.int (nI (m)), .ref (gAd E (61)), .int ((rA R 15) (j))] (by rw [hbm]) ?_
      refine G.ialdN (61) (m) (by omega) (r.a15) (by omega) (by decide) (tbd tv_X12_lowestHeld rfl) ?_
      refine G.cmp_ge 46 (tbd tv_X12_lowestHeld rfl) (by decide) (fun c39 => ?_) (fun c39 => ?_)
      · skip
        refine G.go tv_X12_lowestHeld 4 4 [(0, .ref (gAd E (56))), (1, .int ((0 : Int32))), (2, .int (rLow (rA R 15) (j))), (3, .int (nI (j) + (1 : Int32)))] [] rfl ?_
        refine G.eql [(0, .ref (gAd E (56))), (1, .int ((0 : Int32))), (2, .int (rLow (rA R 15) (j + 1))), (3, .int (nI (j + 1)))] (by rw [rLow_n (fun q => q.elim c24 (fun q2 => by rw [hbm, nI_clamp (by omega)] at q2; exact absurd q2 (Int32.not_lt.mpr c39))), nI_1]) ?_
        exact ih (j + 1) (by omega) _ (r) (hf)
      · skip
        refine G.go tv_X12_lowestHeld 5 4 [(0, .ref (gAd E (56))), (1, .int ((0 : Int32))), (2, .int (nI (j))), (3, .int (nI (j) + (1 : Int32)))] [] rfl ?_
        refine G.eql [(0, .ref (gAd E (56))), (1, .int ((0 : Int32))), (2, .int (rLow (rA R 15) (j + 1))), (3, .int (nI (j + 1)))] (by first | rw [rLow_y (Or.inl c24), nI_1] | rw [rLow_y (Or.inr (by rw [hbm, nI_clamp (by omega)]; exact Int32.not_le.mp c39)), nI_1]) ?_
        exact ih (j + 1) (by omega) _ (r) (hf)
set_option maxRecDepth 100000 in
set_option maxHeartbeats 4000000 in
theorem c_X12_lowestHeld (E : gE) (f : Nat → va_E) (R : RfT) (wf w B hd : Nat) (hd0 : rDb R wf w B hd) (hE : 94 ≤ gN E) (r : RfV E f R) : Ct E 1 yX12_lowestHeld cX12_lowestHeld 4 (some .int) [.ref (gAd E (56)), .int ((0 : Int32))] f (fun v g => v = some (.int (rLow (rA R 15) hd)) ∧ RfV E g (R) ∧ Fr RfK f g, fun _ _ => False) := by
  obtain ⟨⟨hwf, hwf2, hnw, hnw2⟩, h7, h40, ⟨hb6, hb8, hb17, hb44⟩, ⟨hB, hB4, hB64, hh, hhB⟩, h15, h39⟩ := id hd0
  refine Ct.of (by decide) (Nat.le_of_ble_eq_true rfl) (fun sz => ?_)
  refine G.eql [(0, .ref (gAd E (56))), (1, .int ((0 : Int32)))] rfl ?_
  refine G.go tv_X12_lowestHeld 4 4 [(0, .ref (gAd E (56))), (1, .int ((0 : Int32))), (2, .int ((-1 : Int32))), (3, .int ((0 : Int32)))] [] rfl ?_
  refine lh_loop E f _ _ _ hE R wf w B hd hd0 ?_ hd 0 (by omega) f r Fr.rf
  intro u0 r0 h0
  refine G.go tv_X12_lowestHeld 1 55 [(0, .ref (gAd E (56))), (1, .int ((0 : Int32))), (2, .int (rLow (rA R 15) (hd))), (3, .int (nI (hd)))] [.int (rLow (rA R 15) (hd))] rfl ?_
  exact G.iret rfl rfl (⟨rfl, r0, h0⟩) (tbd tv_X12_lowestHeld rfl)
def nF (R : RfT) : Nat := (rS R 9).toNatClampNeg
def nW (R : RfT) : Nat := (rS R 10).toNatClampNeg
def nH (R : RfT) : Nat := (rS R 18).toNatClampNeg
def nK (R : RfT) : Nat := (rS R 33).toNatClampNeg
def nBl (R : RfT) (k : Nat) : Nat := (rA R 15 k).toNatClampNeg
def rWr (R : RfT) (k : Nat) : RfT := rWrt R (nF R) (nW R) (rA R 7 (nF R)).toNatClampNeg (nBl R k) k
def rLe (R : RfT) (k : Nat) : RfT := rLv R (nH R) k (nBl R k) (nBl R (nH R - 1))
theorem rDb.n {R : RfT} {wf w B hd : Nat} (h : rDb R wf w B hd) : nF R = wf ∧ nW R = w ∧ nH R = hd := by
  obtain ⟨⟨a1, a2, a3, a4⟩, -, -, -, ⟨-, -, e3, e4, e5⟩, -, -⟩ := h
  exact ⟨by unfold nF; rw [a1, nI_clamp (by omega)], by unfold nW; rw [a3, nI_clamp (by omega)], by unfold nH; rw [e4, nI_clamp (by omega)]⟩
theorem rWk.n {R : RfT} {n : Nat} (h : rWk R n) : nK R = n := by
  unfold nK
  rw [h.2.1, nI_clamp (by have := h.1; omega)]
theorem nBl_of {R : RfT} {k t : Nat} (h : rA R 15 k = nI t) (ht : t < 1024) : nBl R k = t := by
  unfold nBl
  rw [h, nI_clamp (by omega)]
theorem rWr_eq {R : RfT} {wf w B hd b t k : Nat} (h : rDb R wf w B hd) (hb : rA R 7 wf = nI b) (hb1 : b < 1024) (ht : rA R 15 k = nI t) (ht1 : t < 1024) : rWrt R wf w b t k = rWr R k := by
  obtain ⟨e1, e2, -⟩ := h.n
  unfold rWr
  rw [e1, e2, hb, nI_clamp (by omega), nBl_of ht ht1]
theorem rLe_eq {R : RfT} {wf w B hd b b2 k : Nat} (h : rDb R wf w B hd) (hb : rA R 15 k = nI b) (hb1 : b < 1024) (h2 : rA R 15 (hd - 1) = nI b2) (hb2 : b2 < 1024) : rLv R hd k b b2 = rLe R k := by
  obtain ⟨-, -, e3⟩ := h.n
  unfold rLe
  rw [e3, nBl_of hb hb1, nBl_of h2 hb2]
theorem rDb_20 {R : RfT} {wf w B hd : Nat} {v : Int32} (h : rDb R wf w B hd) : rDb (setS R 20 v) wf w B hd := by
  obtain ⟨⟨a1, a2, a3, a4⟩, b, c, ⟨d1, d2, d3, d4⟩, e, f, g⟩ := h
  exact ⟨⟨a1, a2, a3, a4⟩, b, c, ⟨d1, d2, d3, d4⟩, e, f, g⟩
/-- a block's value is put into place k -/
def rHn (R : RfT) (k t j a : Nat) : RfT := setA (setWh (setLW (setA (setA R 15 (upd (rA R 15) k (nI t))) 39 (upd (rA R 39) t (nI k))) (vp_updL (rLW R) k (rWh R))) (rWh R + 1)) 17 (va_cpy (rA R j) (rA R 17) a (128 * k) 128)
theorem rHn_old {R : RfT} {wf w B hd k t j a : Nat} (h : rDb R wf w B hd) (hk : k < hd) (hk2 : rA R 15 k = nI t) (ht : t < 1024) (hj : Byt (rA R j)) : rDb (rHn R k t j a) wf w B hd := by
  obtain ⟨⟨a1, a2, a3, a4⟩, b, c, ⟨d1, d2, d3, d4⟩, ⟨e1, e2, e3, e4, e5⟩, f, g⟩ := h
  refine ⟨⟨a1, a2, a3, a4⟩, b, c, ⟨d1, d2, hj.cpy d3, d4⟩, ⟨e1, e2, e3, e4, e5⟩, fun m hm => ?_, fun u hu => ?_⟩
  · show ∃ t', t' < 1024 ∧ upd (rA R 15) k (nI t) m = nI t'
    by_cases e : m = k
    · exact ⟨t, ht, by rw [e]; exact pk_us⟩
    · rw [pk_un e]
      exact f m hm
  · show upd (rA R 39) t (nI k) u = -1 ∨ ∃ m, m < hd ∧ upd (rA R 39) t (nI k) u = nI m ∧ upd (rA R 15) k (nI t) m = nI u
    by_cases q : u = t
    · exact Or.inr ⟨k, hk, by rw [q]; exact pk_us, by rw [q]; exact pk_us⟩
    · rw [pk_un q]
      rcases g u hu with h9 | ⟨m, m1, m2, m3⟩
      · exact Or.inl h9
      · have n1 : m ≠ k := fun e => q ((nI_eq (by omega) (by omega)).mp (by rw [← m3, e, hk2]))
        exact Or.inr ⟨m, m1, m2, by rw [pk_un n1]; exact m3⟩
theorem rHn_new {R : RfT} {wf w B hd t j a : Nat} (h : rDb R wf w B hd) (hB : hd < B) (ht : t < 1024) (hj : Byt (rA R j)) : rDb (rHn (setS R 18 (nI (hd + 1))) hd t j a) wf w B (hd + 1) := by
  obtain ⟨⟨a1, a2, a3, a4⟩, b, c, ⟨d1, d2, d3, d4⟩, ⟨e1, e2, e3, e4, e5⟩, f, g⟩ := h
  refine ⟨⟨a1, a2, a3, a4⟩, b, c, ⟨d1, d2, hj.cpy d3, d4⟩, ⟨e1, e2, e3, rfl, by omega⟩, fun m hm => ?_, fun u hu => ?_⟩
  · show ∃ t', t' < 1024 ∧ upd (rA R 15) hd (nI t) m = nI t'
    by_cases e : m = hd
    · exact ⟨t, ht, by rw [e]; exact pk_us⟩
    · rw [pk_un e]
      exact f m hm
  · show upd (rA R 39) t (nI hd) u = -1 ∨ ∃ m, m < hd + 1 ∧ upd (rA R 39) t (nI hd) u = nI m ∧ upd (rA R 15) hd (nI t) m = nI u
    by_cases q : u = t
    · exact Or.inr ⟨hd, by omega, by rw [q]; exact pk_us, by rw [q]; exact pk_us⟩
    · rw [pk_un q]
      rcases g u hu with h9 | ⟨m, m1, m2, m3⟩
      · exact Or.inl h9
      · exact Or.inr ⟨m, by omega, m2, by rw [pk_un (by omega)]; exact m3⟩
/-- the held place that came first -/
def rOld (LW : Nat → Int64) : Nat → Nat
  | 0 => 0
  | i + 1 => if 0 ≤ lg_cmp (LW (i + 1)) (LW (rOld LW i)) then rOld LW i else i + 1
theorem rOld_le (LW : Nat → Int64) : ∀ i, rOld LW i ≤ i
  | 0 => Nat.le_refl 0
  | i + 1 => by
    have := rOld_le LW i
    unfold rOld
    split <;> omega
def rHand (R : RfT) (j a t : Nat) : RfT := if rS R 11 = 0 then R else if rA R 39 t = -1 then (if nH R = (rS R 2).toNatClampNeg then (if rCan R then rHn (setS (rLe (setS (rWr R (rOld (rLW R) (nH R - 1))) 20 (rS R 20 + 1)) (rOld (rLW R) (nH R - 1))) 18 (nI (nH R - 1 + 1))) (nH R - 1) t j a else rFl R (nK R)) else rHn (setS R 18 (nI (nH R + 1))) (nH R) t j a) else rHn R (rA R 39 t).toNatClampNeg t j a
theorem rFl_on {R : RfT} {n : Nat} : rS (rFl R n) 11 = 0 := rfl
def tb_X12_hand : List (Nat × Instr × Nat) := [(0, .aload_n 0, 1), (1, .getfield 25, 3), (4, .ifCond .ne 4, 3), (7, .return_, 1), (8, .aload_n 0, 1), (9, .iload_n 1, 1), (10, .invokevirtual 197, 3), (13, .istore 4, 2), (15, .iload 4, 2), (17, .iconst (-1), 1), (18, .if_icmp .ne 107, 3), (21, .aload_n 0, 1), (22, .getfield 159, 3), (25, .aload_n 0, 1), (26, .getfield 134, 3), (29, .if_icmp .ne 96, 3), (32, .iconst 0, 1), (33, .istore 5, 2), (35, .iconst 1, 1), (36, .istore 6, 2), (38, .iload 6, 2), (40, .aload_n 0, 1), (41, .getfield 159, 3), (44, .if_icmp .ge 36, 3), (47, .aload_n 0, 1), (48, .getfield 36, 3), (51, .iload 6, 2), (53, .laload, 1), (54, .aload_n 0, 1), (55, .getfield 36, 3), (58, .iload 5, 2), (60, .laload, 1), (61, .lcmp, 1), (62, .ifCond .ge 8, 3), (65, .iload 6, 2), (67, .goto 5, 3), (70, .iload 5, 2), (72, .istore 5, 2), (74, .iinc 6 1, 3), (77, .goto (-39), 3), (80, .aload_n 0, 1), (81, .aload_n 0, 1), (82, .getfield 33, 3), (85, .iload 5, 2), (87, .iaload, 1), (88, .aload_n 0, 1), (89, .getfield 40, 3), (92, .sipush 128, 3), (95, .iload 5, 2), (97, .imul, 1), (98, .invokevirtual 201, 3), (101, .aload_n 0, 1), (102, .getfield 25, 3), (105, .ifCond .ne 4, 3), (108, .return_, 1), (109, .aload_n 0, 1), (110, .dup, 1), (111, .getfield 205, 3), (114, .iconst 1, 1), (115, .iadd, 1), (116, .putfield 205, 3), (119, .aload_n 0, 1), (120, .iload 5, 2), (122, .invokevirtual 208, 3), (125, .iload 4, 2), (127, .iconst (-1), 1), (128, .if_icmp .ne 19, 3), (131, .aload_n 0, 1), (132, .getfield 159, 3), (135, .istore 4, 2), (137, .aload_n 0, 1), (138, .dup, 1), (139, .getfield 159, 3), (142, .iconst 1, 1), (143, .iadd, 1), (144, .putfield 159, 3), (147, .aload_n 0, 1), (148, .getfield 33, 3), (151, .iload 4, 2), (153, .iload_n 1, 1), (154, .iastore, 1), (155, .aload_n 0, 1), (156, .getfield 80, 3), (159, .iload_n 1, 1), (160, .iload 4, 2), (162, .iastore, 1), (163, .aload_n 0, 1), (164, .getfield 36, 3), (167, .iload 4, 2), (169, .aload_n 0, 1), (170, .getfield 212, 3), (173, .lastore, 1), (174, .aload_n 0, 1), (175, .dup, 1), (176, .getfield 212, 3), (179, .lconst 1, 1), (180, .ladd, 1), (181, .putfield 212, 3), (184, .aload_n 2, 1), (185, .iload_n 3, 1), (186, .aload_n 0, 1), (187, .getfield 40, 3), (190, .sipush 128, 3), (193, .iload 4, 2), (195, .imul, 1), (196, .invokestatic 190, 3), (199, .return_, 1)]
theorem tv_X12_hand : Tv cX12_hand tb_X12_hand := by
  unfold Tv
  decide +kernel
set_option maxRecDepth 100000 in
set_option maxHeartbeats 4000000 in
theorem hl_loop_out (E : gE) (f0 : Nat → va_E) (sz : Nat) (A : Nat → Prop) (Q : gQ) (hE : 94 ≤ gN E) (R : RfT) (wf w B hd : Nat) (hd0 : rDb R wf w B hd) (t : Nat) (h1 : 0 < hd) (kq : ∀ g, RfV E g (R) → Fr RfK f0 g → G E (5, yX12_hand, 7, none, sz, A) cX12_hand (gO E (5, yX12_hand, 7, none, sz, A) Q) 80 [(0, .ref (gAd E (56))), (1, .int (nI t)), (2, .ref (gAd E (79))), (3, .int (nI (0))), (4, .int ((-1 : Int32))), (5, .int (nI (rOld (rLW R) (hd - 1)))), (6, .int (nI ((hd - 1) + 1)))] [] g) : ∀ (d j : Nat), j + d = hd - 1 → ∀ f, RfV E f (R) → Fr RfK f0 f → G E (5, yX12_hand, 7, none, sz, A) cX12_hand (gO E (5, yX12_hand, 7, none, sz, A) Q) 38 [(0, .ref (gAd E (56))), (1, .int (nI t)), (2, .ref (gAd E (79))), (3, .int (nI (0))), (4, .int ((-1 : Int32))), (5, .int (nI (rOld (rLW R) (j)))), (6, .int (nI ((j) + 1)))] [] f := by
  obtain ⟨⟨hwf, hwf2, hnw, hnw2⟩, h7, h40, ⟨hb6, hb8, hb17, hb44⟩, ⟨hB, hB4, hB64, hh, hhB⟩, h15, h39⟩ := id hd0
  intro d
  induction d with
  | zero =>
    intro j e f r hf
    have e : j = hd - 1 := e
    refine G.go tv_X12_hand 2 41 [(0, .ref (gAd E (56))), (1, .int (nI t)), (2, .ref (gAd E (79))), (3, .int (nI (0))), (4, .int ((-1 : Int32))), (5, .int (nI (rOld (rLW R) (j)))), (6, .int (nI ((j) + 1)))] [.ref (gAd E (56)), .int (nI ((j) + 1))] rfl ?_
    refine G.rg r hE 18 (.int (rS R 18)) (by decide) rfl (tbd tv_X12_hand rfl) w_2083 ?_
    refine G.eqs [.int (nI hd), .int (nI ((j) + 1))] (by rw [hh]) ?_
    refine G.cmp_ge 80 (tbd tv_X12_hand rfl) (by decide) (fun c44 => ?_) (fun c44 => absurd (by rw [e]; exact nI_le (by omega) (by omega)) c44)
    refine G.eql [(0, .ref (gAd E (56))), (1, .int (nI t)), (2, .ref (gAd E (79))), (3, .int (nI (0))), (4, .int ((-1 : Int32))), (5, .int (nI (rOld (rLW R) (hd - 1)))), (6, .int (nI ((hd - 1) + 1)))] (by rw [e]) ?_
    exact kq _ (by first | exact r | exact e ▸ r) (hf)
  | succ d ih =>
    intro j e f r hf
    refine G.go tv_X12_hand 2 41 [(0, .ref (gAd E (56))), (1, .int (nI t)), (2, .ref (gAd E (79))), (3, .int (nI (0))), (4, .int ((-1 : Int32))), (5, .int (nI (rOld (rLW R) (j)))), (6, .int (nI ((j) + 1)))] [.ref (gAd E (56)), .int (nI ((j) + 1))] rfl ?_
    refine G.rg r hE 18 (.int (rS R 18)) (by decide) rfl (tbd tv_X12_hand rfl) w_2083 ?_
    refine G.eqs [.int (nI hd), .int (nI ((j) + 1))] (by rw [hh]) ?_
    refine G.cmp_ge 80 (tbd tv_X12_hand rfl) (by decide) (fun c44 => absurd c44 (nI_ge (by omega) (by omega))) (fun c44 => ?_)
    refine G.go tv_X12_hand 1 48 [(0, .ref (gAd E (56))), (1, .int (nI t)), (2, .ref (gAd E (79))), (3, .int (nI (0))), (4, .int ((-1 : Int32))), (5, .int (nI (rOld (rLW R) (j)))), (6, .int (nI ((j) + 1)))] [.ref (gAd E (56))] rfl ?_
    refine G.rg r hE 16 (.ref (gAd E (62))) (by decide) rfl (tbd tv_X12_hand rfl) w_2081 ?_
    refine G.go tv_X12_hand 1 53 [(0, .ref (gAd E (56))), (1, .int (nI t)), (2, .ref (gAd E (79))), (3, .int (nI (0))), (4, .int ((-1 : Int32))), (5, .int (nI (rOld (rLW R) (j)))), (6, .int (nI ((j) + 1)))] [.int (nI ((j) + 1)), .ref (gAd E (62))] rfl ?_
    refine G.laldN (62) (j + 1) (by omega) (r.a16) (by omega) (by decide) (tbd tv_X12_hand rfl) ?_
    refine G.go tv_X12_hand 1 55 [(0, .ref (gAd E (56))), (1, .int (nI t)), (2, .ref (gAd E (79))), (3, .int (nI (0))), (4, .int ((-1 : Int32))), (5, .int (nI (rOld (rLW R) (j)))), (6, .int (nI ((j) + 1)))] [.ref (gAd E (56)), .long ((rLW R) (j + 1))] rfl ?_
    refine G.rg r hE 16 (.ref (gAd E (62))) (by decide) rfl (tbd tv_X12_hand rfl) w_2081 ?_
    refine G.go tv_X12_hand 1 60 [(0, .ref (gAd E (56))), (1, .int (nI t)), (2, .ref (gAd E (79))), (3, .int (nI (0))), (4, .int ((-1 : Int32))), (5, .int (nI (rOld (rLW R) (j)))), (6, .int (nI ((j) + 1)))] [.int (nI (rOld (rLW R) (j))), .ref (gAd E (62)), .long ((rLW R) (j + 1))] rfl ?_
    refine G.laldN (62) (rOld (rLW R) j) (by omega) (r.a16) (by have := rOld_le (rLW R) j; omega) (by decide) (tbd tv_X12_hand rfl) ?_
    refine G.go tv_X12_hand 1 62 [(0, .ref (gAd E (56))), (1, .int (nI t)), (2, .ref (gAd E (79))), (3, .int (nI (0))), (4, .int ((-1 : Int32))), (5, .int (nI (rOld (rLW R) (j)))), (6, .int (nI ((j) + 1)))] [.int (lg_cmp ((rLW R) (j + 1)) ((rLW R) (rOld (rLW R) j)))] rfl ?_
    refine G.if_ge 70 (tbd tv_X12_hand rfl) (by decide) (fun c62 => ?_) (fun c62 => ?_)
    · skip
      refine G.go tv_X12_hand 4 38 [(0, .ref (gAd E (56))), (1, .int (nI t)), (2, .ref (gAd E (79))), (3, .int (nI (0))), (4, .int ((-1 : Int32))), (5, .int (nI (rOld (rLW R) (j)))), (6, .int (nI ((j) + 1) + (1 : Int32)))] [] rfl ?_
      refine G.eql [(0, .ref (gAd E (56))), (1, .int (nI t)), (2, .ref (gAd E (79))), (3, .int (nI (0))), (4, .int ((-1 : Int32))), (5, .int (nI (rOld (rLW R) (j + 1)))), (6, .int (nI ((j + 1) + 1)))] (by rw [show rOld (rLW R) (j + 1) = rOld (rLW R) j from if_pos c62, nI_1]) ?_
      exact ih (j + 1) (by omega) _ (r) (hf)
    · skip
      refine G.go tv_X12_hand 5 38 [(0, .ref (gAd E (56))), (1, .int (nI t)), (2, .ref (gAd E (79))), (3, .int (nI (0))), (4, .int ((-1 : Int32))), (5, .int (nI ((j) + 1))), (6, .int (nI ((j) + 1) + (1 : Int32)))] [] rfl ?_
      refine G.eql [(0, .ref (gAd E (56))), (1, .int (nI t)), (2, .ref (gAd E (79))), (3, .int (nI (0))), (4, .int ((-1 : Int32))), (5, .int (nI (rOld (rLW R) (j + 1)))), (6, .int (nI ((j + 1) + 1)))] (by rw [show rOld (rLW R) (j + 1) = j + 1 from if_neg c62, nI_1]) ?_
      exact ih (j + 1) (by omega) _ (r) (hf)
theorem w_2282 : Cond.methodLink "LedgerFilesModel" 197 yX12_heldAt ∈ TB := tp_9 216 (by decide +kernel) rfl
theorem w_2285 : Cond.code yX12_heldAt prog_14_method_15_code 2 (some .int) ∈ TB := tp_9 219 rfl rfl
theorem cw_X12_197 : Cw RX12 197 yX12_heldAt cX12_heldAt 2 (some .int) 1 := ⟨w_2282, w_2285, w_161, by decide +kernel, by decide +kernel, by decide⟩
theorem w_2284 : Cond.instanceMethod yX12_heldAt ∈ TB := tp_9 218 (by decide +kernel) rfl
theorem w_57 : Cond.selects "LedgerFilesModel" yX12_heldAt yX12_heldAt ∈ TB := tp_0 57 (by decide +kernel) rfl
theorem w_2084 : Cond.fieldLink "LedgerFilesModel" 212 "LedgerFilesModel" "when" "J" ∈ TB := tp_9 18 (by decide +kernel) rfl
theorem w_2067 : Cond.fieldLink "LedgerFilesModel" 134 "LedgerFilesModel" "most" "I" ∈ TB := tp_9 1 (by decide +kernel) rfl
theorem w_2286 : Cond.methodLink "LedgerFilesModel" 201 yX12_writeDisk ∈ TB := tp_9 220 (by decide +kernel) rfl
theorem w_2289 : Cond.code yX12_writeDisk prog_14_method_12_code 5 none ∈ TB := tp_9 223 rfl rfl
theorem cw_X12_201 : Cw RX12 201 yX12_writeDisk cX12_writeDisk 5 none 3 := ⟨w_2286, w_2289, w_161, by decide +kernel, by decide +kernel, by decide⟩
theorem w_2288 : Cond.instanceMethod yX12_writeDisk ∈ TB := tp_9 222 (by decide +kernel) rfl
theorem w_58 : Cond.selects "LedgerFilesModel" yX12_writeDisk yX12_writeDisk ∈ TB := tp_0 58 (by decide +kernel) rfl
theorem w_2309 : Cond.methodLink "LedgerFilesModel" 208 yX12_leave ∈ TB := tp_10 3 (by decide +kernel) rfl
theorem w_2312 : Cond.code yX12_leave prog_14_method_16_code 2 none ∈ TB := tp_10 6 rfl rfl
theorem cw_X12_208 : Cw RX12 208 yX12_leave cX12_leave 2 none 1 := ⟨w_2309, w_2312, w_161, by decide +kernel, by decide +kernel, by decide⟩
theorem w_2311 : Cond.instanceMethod yX12_leave ∈ TB := tp_10 5 (by decide +kernel) rfl
theorem w_63 : Cond.selects "LedgerFilesModel" yX12_leave yX12_leave ∈ TB := tp_0 63 (by decide +kernel) rfl
set_option maxRecDepth 100000 in
set_option maxHeartbeats 4000000 in
theorem c_X12_hand_out (E : gE) (f : Nat → va_E) (R : RfT) (wf w B hd n : Nat) (hd0 : rDb R wf w B hd) (hk0 : rWk R n) (hE : 94 ≤ gN E) (r : RfV E f R) (t : Nat) (ht : t < 1024) (hby : Byt (rA R 44)) : Ct E 5 yX12_hand cX12_hand 7 none [.ref (gAd E (56)), .int (nI t), .ref (gAd E (79)), .int (nI (0))] f (fun v g => v = none ∧ RfV E g (rHand R 44 (0) t) ∧ Fr RfK f g, fun _ _ => False) := by
  obtain ⟨⟨hwf, hwf2, hnw, hnw2⟩, h7, h40, ⟨hb6, hb8, hb17, hb44⟩, ⟨hB, hB4, hB64, hh, hhB⟩, h15, h39⟩ := id hd0
  obtain ⟨hn, hwn, hwb⟩ := id hk0
  obtain ⟨e1, e2, e3⟩ := hd0.n
  obtain ⟨b, hb1, hb⟩ := h7 wf hwf2
  obtain ⟨bo, hbo1, hbo⟩ := h15 (rOld (rLW R) (hd - 1)) (by have := rOld_le (rLW R) (hd - 1); omega)
  obtain ⟨bl, hbl1, hbl⟩ := h15 (hd - 1) (by omega)
  refine Ct.of (by decide) (Nat.le_of_ble_eq_true rfl) (fun sz => ?_)
  refine G.eql [(0, .ref (gAd E (56))), (1, .int (nI t)), (2, .ref (gAd E (79))), (3, .int (nI (0)))] rfl ?_
  rcases h39 t ht with hA | ⟨k, hk1, hk2, hk3⟩
  · skip
    refine G.go tv_X12_hand 1 1 [(0, .ref (gAd E (56))), (1, .int (nI t)), (2, .ref (gAd E (79))), (3, .int (nI (0)))] [.ref (gAd E (56))] rfl ?_
    refine G.rg r hE 11 (.int (rS R 11)) (by decide) rfl (tbd tv_X12_hand rfl) w_2076 ?_
    refine G.if_ne 8 (tbd tv_X12_hand rfl) (by decide) (fun c4 => ?_) (fun c4 => ?_)
    · skip
      refine G.go tv_X12_hand 2 10 [(0, .ref (gAd E (56))), (1, .int (nI t)), (2, .ref (gAd E (79))), (3, .int (nI (0)))] [.int (nI t), .ref (gAd E (56))] rfl ?_
      refine G.callV (56) [.int (nI t)] [] (c_X12_heldAt E _ (R) hE r t ht) cls_X12 (by omega) (r.o) cw_X12_197 w_2284 w_57 (Nat.le_of_ble_eq_true rfl) rfl (Nat.le_of_ble_eq_true rfl) (tbd tv_X12_hand rfl) (fun v1 f1 q1 => ?_) (fun _ _ h => h.elim)
      obtain ⟨rfl, ra1, fa1⟩ := q1
      refine G.eqs [.int (rA R 39 t)] rfl ?_
      refine G.eqs [.int ((-1 : Int32))] (by rw [hA]) ?_
      refine G.go tv_X12_hand 3 18 [(0, .ref (gAd E (56))), (1, .int (nI t)), (2, .ref (gAd E (79))), (3, .int (nI (0))), (4, .int ((-1 : Int32)))] [.int ((-1 : Int32)), .int ((-1 : Int32))] rfl ?_
      refine G.cmp_ne 125 (tbd tv_X12_hand rfl) (by decide) (fun c18 => absurd (rfl) c18) (fun c18 => ?_)
      refine G.go tv_X12_hand 1 22 [(0, .ref (gAd E (56))), (1, .int (nI t)), (2, .ref (gAd E (79))), (3, .int (nI (0))), (4, .int ((-1 : Int32)))] [.ref (gAd E (56))] rfl ?_
      refine G.rg ra1 hE 18 (.int (rS R 18)) (by decide) rfl (tbd tv_X12_hand rfl) w_2083 ?_
      refine G.eqs [.int (nI hd)] (by rw [hh]) ?_
      refine G.go tv_X12_hand 1 26 [(0, .ref (gAd E (56))), (1, .int (nI t)), (2, .ref (gAd E (79))), (3, .int (nI (0))), (4, .int ((-1 : Int32)))] [.ref (gAd E (56)), .int (nI hd)] rfl ?_
      refine G.rg ra1 hE 2 (.int (rS R 2)) (by decide) rfl (tbd tv_X12_hand rfl) w_2067 ?_
      refine G.eqs [.int (nI B), .int (nI hd)] (by rw [hB]) ?_
      refine G.cmp_ne 125 (tbd tv_X12_hand rfl) (by decide) (fun c29 => ?_) (fun c29 => ?_)
      · skip
        have hfull : ¬ hd = B := fun q => c29 (by rw [q])
        refine G.go tv_X12_hand 2 128 [(0, .ref (gAd E (56))), (1, .int (nI t)), (2, .ref (gAd E (79))), (3, .int (nI (0))), (4, .int ((-1 : Int32)))] [.int ((-1 : Int32)), .int ((-1 : Int32))] rfl ?_
        refine G.cmp_ne 147 (tbd tv_X12_hand rfl) (by decide) (fun c128 => absurd (rfl) c128) (fun c128 => ?_)
        refine G.go tv_X12_hand 1 132 [(0, .ref (gAd E (56))), (1, .int (nI t)), (2, .ref (gAd E (79))), (3, .int (nI (0))), (4, .int ((-1 : Int32)))] [.ref (gAd E (56))] rfl ?_
        refine G.rg ra1 hE 18 (.int (rS R 18)) (by decide) rfl (tbd tv_X12_hand rfl) w_2083 ?_
        refine G.eqs [.int (nI hd)] (by rw [hh]) ?_
        refine G.go tv_X12_hand 3 139 [(0, .ref (gAd E (56))), (1, .int (nI t)), (2, .ref (gAd E (79))), (3, .int (nI (0))), (4, .int (nI hd))] [.ref (gAd E (56)), .ref (gAd E (56))] rfl ?_
        refine G.rg ra1 hE 18 (.int (rS R 18)) (by decide) rfl (tbd tv_X12_hand rfl) w_2083 ?_
        refine G.eqs [.int (nI hd), .ref (gAd E (56))] (by rw [hh]) ?_
        refine G.go tv_X12_hand 2 144 [(0, .ref (gAd E (56))), (1, .int (nI t)), (2, .ref (gAd E (79))), (3, .int (nI (0))), (4, .int (nI hd))] [.int ((nI hd) + ((1 : Int32))), .ref (gAd E (56))] rfl ?_
        refine G.eqs [.int (nI (hd + 1)), .ref (gAd E (56))] (by rw [nI_1]) ?_
        refine G.rp ra1 hE 18 (setS (R) 18 (nI (hd + 1))) rfl rfl (by decide) rfl rfl rfl (tbd tv_X12_hand rfl) w_2083 (fun u5 r5 h5 => ?_)
        refine G.go tv_X12_hand 1 148 [(0, .ref (gAd E (56))), (1, .int (nI t)), (2, .ref (gAd E (79))), (3, .int (nI (0))), (4, .int (nI hd))] [.ref (gAd E (56))] rfl ?_
        refine G.rg r5 hE 15 (.ref (gAd E (61))) (by decide) rfl (tbd tv_X12_hand rfl) w_2080 ?_
        refine G.go tv_X12_hand 2 154 [(0, .ref (gAd E (56))), (1, .int (nI t)), (2, .ref (gAd E (79))), (3, .int (nI (0))), (4, .int (nI hd))] [.int (nI t), .int (nI hd), .ref (gAd E (61))] rfl ?_
        refine G.raI (hd) hE ⟨by decide, by decide⟩ r5.a15 (r5.p15 _) (by omega) (by decide) (tbd tv_X12_hand rfl) (fun u6 r6 h6 => ?_)
        refine G.go tv_X12_hand 1 156 [(0, .ref (gAd E (56))), (1, .int (nI t)), (2, .ref (gAd E (79))), (3, .int (nI (0))), (4, .int (nI hd))] [.ref (gAd E (56))] rfl ?_
        refine G.rg r6 hE 39 (.ref (gAd E (76))) (by decide) rfl (tbd tv_X12_hand rfl) w_2104 ?_
        refine G.go tv_X12_hand 2 162 [(0, .ref (gAd E (56))), (1, .int (nI t)), (2, .ref (gAd E (79))), (3, .int (nI (0))), (4, .int (nI hd))] [.int (nI hd), .int (nI t), .ref (gAd E (76))] rfl ?_
        refine G.raI (t) hE ⟨by decide, by decide⟩ r6.a39 (r6.p39 _) (ht) (by decide) (tbd tv_X12_hand rfl) (fun u7 r7 h7 => ?_)
        refine G.go tv_X12_hand 1 164 [(0, .ref (gAd E (56))), (1, .int (nI t)), (2, .ref (gAd E (79))), (3, .int (nI (0))), (4, .int (nI hd))] [.ref (gAd E (56))] rfl ?_
        refine G.rg r7 hE 16 (.ref (gAd E (62))) (by decide) rfl (tbd tv_X12_hand rfl) w_2081 ?_
        refine G.go tv_X12_hand 2 170 [(0, .ref (gAd E (56))), (1, .int (nI t)), (2, .ref (gAd E (79))), (3, .int (nI (0))), (4, .int (nI hd))] [.ref (gAd E (56)), .int (nI hd), .ref (gAd E (62))] rfl ?_
        refine G.rg r7 hE 19 (.long (rWh R)) (by decide) rfl (tbd tv_X12_hand rfl) w_2084 ?_
        refine G.raJ (hd) hE ⟨by decide, by decide⟩ r7.a16 (r7.p16 _) (by omega) (by decide) (tbd tv_X12_hand rfl) (fun u8 r8 h8 => ?_)
        refine G.go tv_X12_hand 2 176 [(0, .ref (gAd E (56))), (1, .int (nI t)), (2, .ref (gAd E (79))), (3, .int (nI (0))), (4, .int (nI hd))] [.ref (gAd E (56)), .ref (gAd E (56))] rfl ?_
        refine G.rg r8 hE 19 (.long (rWh R)) (by decide) rfl (tbd tv_X12_hand rfl) w_2084 ?_
        refine G.go tv_X12_hand 2 181 [(0, .ref (gAd E (56))), (1, .int (nI t)), (2, .ref (gAd E (79))), (3, .int (nI (0))), (4, .int (nI hd))] [.long ((rWh R) + ((1 : Int64))), .ref (gAd E (56))] rfl ?_
        refine G.rp r8 hE 19 (setWh (setLW (setA (setA (setS (R) 18 (nI (hd + 1))) 15 (upd (rA R 15) (hd) (nI t))) 39 (upd (rA R 39) (t) (nI hd))) (vp_updL (rLW R) (hd) (rWh R))) ((rWh R) + ((1 : Int64)))) rfl rfl (by decide) rfl rfl rfl (tbd tv_X12_hand rfl) w_2084 (fun u9 r9 h9 => ?_)
        refine G.go tv_X12_hand 3 187 [(0, .ref (gAd E (56))), (1, .int (nI t)), (2, .ref (gAd E (79))), (3, .int (nI (0))), (4, .int (nI hd))] [.ref (gAd E (56)), .int (nI (0)), .ref (gAd E (79))] rfl ?_
        refine G.rg r9 hE 17 (.ref (gAd E (63))) (by decide) rfl (tbd tv_X12_hand rfl) w_2082 ?_
        refine G.go tv_X12_hand 3 196 [(0, .ref (gAd E (56))), (1, .int (nI t)), (2, .ref (gAd E (79))), (3, .int (nI (0))), (4, .int (nI hd))] [.int (((128 : Int32)) * (nI hd)), .ref (gAd E (63)), .int (nI (0)), .ref (gAd E (79))] rfl ?_
        refine G.eqs [.int (nI (128 * (hd))), .ref (gAd E (63)), .int (nI (0)), .ref (gAd E (79))] (by rw [show (128 : Int32) = nI 128 from rfl, pk_mul]) ?_
        refine G.callS [.ref (gAd E (79)), .int (nI (0)), .ref (gAd E (63)), .int (nI (128 * (hd)))] [] (c_X12_move E _ 79 128 63 8192 (rA R 44) (rA R 17) (0) (128 * (hd)) (by omega) (by omega) (by decide) r9.a44 (by decide) (by decide) (by omega) (by omega) hby r9.a17) cw_X12_190 w_2307 (Nat.le_of_ble_eq_true rfl) rfl (Nat.le_of_ble_eq_true rfl) (tbd tv_X12_hand rfl) (fun v2 f2 q2 => ?_) (fun _ _ h => h.elim)
        obtain ⟨rfl, ea2⟩ := q2
        refine G.eqs [] rfl ?_
        have ra2 : RfV E f2 (setA (setWh (setLW (setA (setA (setS (R) 18 (nI (hd + 1))) 15 (upd (rA R 15) (hd) (nI t))) 39 (upd (rA R 39) (t) (nI hd))) (vp_updL (rLW R) (hd) (rWh R))) ((rWh R) + ((1 : Int64)))) 17 (va_cpy (rA R 44) (rA R 17) (0) (128 * (hd)) 128)) := RfV.ar (r9.p17 _) ea2
        have fa2 : Fr RfK u9 f2 := Fr.ar ⟨by decide, by decide⟩ ea2
        exact G.vret rfl ⟨rfl, by unfold rHand; rw [if_neg c4, if_pos hA, e3, hB, nI_clamp (by omega), if_neg hfull]; exact ra2, ((((((fa1).tr h5 (fun _ h => h)).tr h6 (fun _ h => h)).tr h7 (fun _ h => h)).tr h8 (fun _ h => h)).tr h9 (fun _ h => h)).tr fa2 (fun _ h => h)⟩ (tbd tv_X12_hand rfl)
      · skip
        have hfull : hd = B := (nI_eq (by omega) (by omega)).mp c29
        refine G.go tv_X12_hand 4 38 [(0, .ref (gAd E (56))), (1, .int (nI t)), (2, .ref (gAd E (79))), (3, .int (nI (0))), (4, .int ((-1 : Int32))), (5, .int ((0 : Int32))), (6, .int ((1 : Int32)))] [] rfl ?_
        refine hl_loop_out E f _ _ _ hE R wf w B hd hd0 t (by omega) ?_ (hd - 1) 0 (by omega) _ ra1 (fa1)
        intro u0 r0 h0
        refine G.go tv_X12_hand 2 82 [(0, .ref (gAd E (56))), (1, .int (nI t)), (2, .ref (gAd E (79))), (3, .int (nI (0))), (4, .int ((-1 : Int32))), (5, .int (nI (rOld (rLW R) (hd - 1)))), (6, .int (nI ((hd - 1) + 1)))] [.ref (gAd E (56)), .ref (gAd E (56))] rfl ?_
        refine G.rg r0 hE 15 (.ref (gAd E (61))) (by decide) rfl (tbd tv_X12_hand rfl) w_2080 ?_
        refine G.go tv_X12_hand 1 87 [(0, .ref (gAd E (56))), (1, .int (nI t)), (2, .ref (gAd E (79))), (3, .int (nI (0))), (4, .int ((-1 : Int32))), (5, .int (nI (rOld (rLW R) (hd - 1)))), (6, .int (nI ((hd - 1) + 1)))] [.int (nI (rOld (rLW R) (hd - 1))), .ref (gAd E (61)), .ref (gAd E (56))] rfl ?_
        refine G.ialdN (61) (rOld (rLW R) (hd - 1)) (by omega) (r0.a15) (by have := rOld_le (rLW R) (hd - 1); omega) (by decide) (tbd tv_X12_hand rfl) ?_
        refine G.eqs [.int ((rA R 15) (rOld (rLW R) (hd - 1))), .ref (gAd E (56))] rfl ?_
        refine G.eqs [.int (nI bo), .ref (gAd E (56))] (by rw [hbo]) ?_
        refine G.go tv_X12_hand 1 89 [(0, .ref (gAd E (56))), (1, .int (nI t)), (2, .ref (gAd E (79))), (3, .int (nI (0))), (4, .int ((-1 : Int32))), (5, .int (nI (rOld (rLW R) (hd - 1)))), (6, .int (nI ((hd - 1) + 1)))] [.ref (gAd E (56)), .int (nI bo), .ref (gAd E (56))] rfl ?_
        refine G.rg r0 hE 17 (.ref (gAd E (63))) (by decide) rfl (tbd tv_X12_hand rfl) w_2082 ?_
        refine G.go tv_X12_hand 3 98 [(0, .ref (gAd E (56))), (1, .int (nI t)), (2, .ref (gAd E (79))), (3, .int (nI (0))), (4, .int ((-1 : Int32))), (5, .int (nI (rOld (rLW R) (hd - 1)))), (6, .int (nI ((hd - 1) + 1)))] [.int (((128 : Int32)) * (nI (rOld (rLW R) (hd - 1)))), .ref (gAd E (63)), .int (nI bo), .ref (gAd E (56))] rfl ?_
        refine G.eqs [.int (nI (128 * (rOld (rLW R) (hd - 1)))), .ref (gAd E (63)), .int (nI bo), .ref (gAd E (56))] (by rw [show (128 : Int32) = nI 128 from rfl, pk_mul]) ?_
        refine G.callV (56) [.int (nI bo), .ref (gAd E (63)), .int (nI (128 * (rOld (rLW R) (hd - 1))))] [] (c_X12_writeDisk E _ R wf w B hd n hd0 hk0 hE r0 b bo (rOld (rLW R) (hd - 1)) hb1 hb hbo1 (by have := rOld_le (rLW R) (hd - 1); omega)) cls_X12 (by omega) (r0.o) cw_X12_201 w_2288 w_58 (Nat.le_of_ble_eq_true rfl) rfl (Nat.le_of_ble_eq_true rfl) (tbd tv_X12_hand rfl) (fun v3 f3 q3 => ?_) (fun _ _ h => h.elim)
        rcases q3 with ⟨hc, rfl, ra3, fa3⟩ | ⟨hc, rfl, ra3, fa3⟩
        · skip
          refine G.eqs [] rfl ?_
          refine G.go tv_X12_hand 1 102 [(0, .ref (gAd E (56))), (1, .int (nI t)), (2, .ref (gAd E (79))), (3, .int (nI (0))), (4, .int ((-1 : Int32))), (5, .int (nI (rOld (rLW R) (hd - 1)))), (6, .int (nI ((hd - 1) + 1)))] [.ref (gAd E (56))] rfl ?_
          refine G.rg ra3 hE 11 (.int (rS (rNo R n) 11)) (by decide) rfl (tbd tv_X12_hand rfl) w_2076 ?_
          refine G.if_ne 109 (tbd tv_X12_hand rfl) (by decide) (fun c105 => absurd (by unfold rNo; rw [if_neg c4]; rfl) c105) (fun c105 => ?_)
          exact G.vret rfl ⟨rfl, by unfold rHand; rw [if_neg c4, if_pos hA, e3, hB, nI_clamp (by omega), if_pos hfull, if_neg hc, hk0.n]; unfold rNo at ra3; rw [if_neg c4] at ra3; exact ra3, (h0).tr fa3 (fun _ h => h)⟩ (tbd tv_X12_hand rfl)
        · skip
          have d1 : rDb (setS (rWrt R wf w b bo (rOld (rLW R) (hd - 1))) 20 (rS R 20 + 1)) _ _ B hd := rDb_20 (rWrt_ok hd0 hbo1)
          have hbo2 : rA (setS (rWrt R wf w b bo (rOld (rLW R) (hd - 1))) 20 (rS R 20 + 1)) 15 (rOld (rLW R) (hd - 1)) = nI bo := (congrFun (rWrt_A (by decide) (by decide) (by decide) (by decide)) _).trans hbo
          have hbl2 : rA (setS (rWrt R wf w b bo (rOld (rLW R) (hd - 1))) 20 (rS R 20 + 1)) 15 (hd - 1) = nI bl := (congrFun (rWrt_A (by decide) (by decide) (by decide) (by decide)) _).trans hbl
          have e20 : rS (rWrt R wf w b bo (rOld (rLW R) (hd - 1))) 20 = rS R 20 := rWrt_S (by decide) (by decide) (by decide) (by decide)
          refine G.eqs [] rfl ?_
          refine G.go tv_X12_hand 1 102 [(0, .ref (gAd E (56))), (1, .int (nI t)), (2, .ref (gAd E (79))), (3, .int (nI (0))), (4, .int ((-1 : Int32))), (5, .int (nI (rOld (rLW R) (hd - 1)))), (6, .int (nI ((hd - 1) + 1)))] [.ref (gAd E (56))] rfl ?_
          refine G.rg ra3 hE 11 (.int (rS (rWrt R wf w b bo (rOld (rLW R) (hd - 1))) 11)) (by decide) rfl (tbd tv_X12_hand rfl) w_2076 ?_
          refine G.if_ne 109 (tbd tv_X12_hand rfl) (by decide) (fun c105 => ?_) (fun c105 => absurd c105 (by rw [rWrt_S (by decide) (by decide) (by decide) (by decide)]; exact c4))
          refine G.go tv_X12_hand 2 111 [(0, .ref (gAd E (56))), (1, .int (nI t)), (2, .ref (gAd E (79))), (3, .int (nI (0))), (4, .int ((-1 : Int32))), (5, .int (nI (rOld (rLW R) (hd - 1)))), (6, .int (nI ((hd - 1) + 1)))] [.ref (gAd E (56)), .ref (gAd E (56))] rfl ?_
          refine G.rg ra3 hE 20 (.int (rS (rWrt R wf w b bo (rOld (rLW R) (hd - 1))) 20)) (by decide) rfl (tbd tv_X12_hand rfl) w_2085 ?_
          refine G.go tv_X12_hand 2 116 [(0, .ref (gAd E (56))), (1, .int (nI t)), (2, .ref (gAd E (79))), (3, .int (nI (0))), (4, .int ((-1 : Int32))), (5, .int (nI (rOld (rLW R) (hd - 1)))), (6, .int (nI ((hd - 1) + 1)))] [.int ((rS (rWrt R wf w b bo (rOld (rLW R) (hd - 1))) 20) + ((1 : Int32))), .ref (gAd E (56))] rfl ?_
          refine G.eqs [.int (rS R 20 + 1), .ref (gAd E (56))] (by rw [e20]) ?_
          refine G.rp ra3 hE 20 (setS (rWrt R wf w b bo (rOld (rLW R) (hd - 1))) 20 (rS R 20 + 1)) rfl rfl (by decide) rfl rfl rfl (tbd tv_X12_hand rfl) w_2085 (fun u10 r10 h10 => ?_)
          refine G.go tv_X12_hand 2 122 [(0, .ref (gAd E (56))), (1, .int (nI t)), (2, .ref (gAd E (79))), (3, .int (nI (0))), (4, .int ((-1 : Int32))), (5, .int (nI (rOld (rLW R) (hd - 1)))), (6, .int (nI ((hd - 1) + 1)))] [.int (nI (rOld (rLW R) (hd - 1))), .ref (gAd E (56))] rfl ?_
          refine G.callV (56) [.int (nI (rOld (rLW R) (hd - 1)))] [] (c_X12_leave E _ (setS (rWrt R wf w b bo (rOld (rLW R) (hd - 1))) 20 (rS R 20 + 1)) _ _ B hd d1 hE r10 (rOld (rLW R) (hd - 1)) bo bl (by have := rOld_le (rLW R) (hd - 1); omega) hbo2 hbo1 hbl2 hbl1) cls_X12 (by omega) (r10.o) cw_X12_208 w_2311 w_63 (Nat.le_of_ble_eq_true rfl) rfl (Nat.le_of_ble_eq_true rfl) (tbd tv_X12_hand rfl) (fun v4 f4 q4 => ?_) (fun _ _ h => h.elim)
          obtain ⟨rfl, ra4, fa4⟩ := q4
          have d2 := rLv_ok d1 (by have := rOld_le (rLW R) (hd - 1); omega) hbo2 hbo1 hbl2 hbl1
          have h182 : rS (rLv (setS (rWrt R wf w b bo (rOld (rLW R) (hd - 1))) 20 (rS R 20 + 1)) hd (rOld (rLW R) (hd - 1)) bo bl) 18 = nI (hd - 1) := d2.2.2.2.2.1.2.2.2.1
          have hby2 : Byt (rA (rLv (setS (rWrt R wf w b bo (rOld (rLW R) (hd - 1))) 20 (rS R 20 + 1)) hd (rOld (rLW R) (hd - 1)) bo bl) 44) := by rw [rLv_A (by decide) (by decide) (by decide)]; show Byt (rA (rWrt R wf w b bo (rOld (rLW R) (hd - 1))) 44); rw [rWrt_A (by decide) (by decide) (by decide) (by decide)]; exact hby
          refine G.eqs [] rfl ?_
          refine G.go tv_X12_hand 2 128 [(0, .ref (gAd E (56))), (1, .int (nI t)), (2, .ref (gAd E (79))), (3, .int (nI (0))), (4, .int ((-1 : Int32))), (5, .int (nI (rOld (rLW R) (hd - 1)))), (6, .int (nI ((hd - 1) + 1)))] [.int ((-1 : Int32)), .int ((-1 : Int32))] rfl ?_
          refine G.cmp_ne 147 (tbd tv_X12_hand rfl) (by decide) (fun c128 => absurd (rfl) c128) (fun c128 => ?_)
          refine G.go tv_X12_hand 1 132 [(0, .ref (gAd E (56))), (1, .int (nI t)), (2, .ref (gAd E (79))), (3, .int (nI (0))), (4, .int ((-1 : Int32))), (5, .int (nI (rOld (rLW R) (hd - 1)))), (6, .int (nI ((hd - 1) + 1)))] [.ref (gAd E (56))] rfl ?_
          refine G.rg ra4 hE 18 (.int (rS (rLv (setS (rWrt R wf w b bo (rOld (rLW R) (hd - 1))) 20 (rS R 20 + 1)) hd (rOld (rLW R) (hd - 1)) bo bl) 18)) (by decide) rfl (tbd tv_X12_hand rfl) w_2083 ?_
          refine G.eqs [.int (nI (hd - 1))] (by rw [h182]) ?_
          refine G.go tv_X12_hand 3 139 [(0, .ref (gAd E (56))), (1, .int (nI t)), (2, .ref (gAd E (79))), (3, .int (nI (0))), (4, .int (nI (hd - 1))), (5, .int (nI (rOld (rLW R) (hd - 1)))), (6, .int (nI ((hd - 1) + 1)))] [.ref (gAd E (56)), .ref (gAd E (56))] rfl ?_
          refine G.rg ra4 hE 18 (.int (rS (rLv (setS (rWrt R wf w b bo (rOld (rLW R) (hd - 1))) 20 (rS R 20 + 1)) hd (rOld (rLW R) (hd - 1)) bo bl) 18)) (by decide) rfl (tbd tv_X12_hand rfl) w_2083 ?_
          refine G.eqs [.int (nI (hd - 1)), .ref (gAd E (56))] (by rw [h182]) ?_
          refine G.go tv_X12_hand 2 144 [(0, .ref (gAd E (56))), (1, .int (nI t)), (2, .ref (gAd E (79))), (3, .int (nI (0))), (4, .int (nI (hd - 1))), (5, .int (nI (rOld (rLW R) (hd - 1)))), (6, .int (nI ((hd - 1) + 1)))] [.int ((nI (hd - 1)) + ((1 : Int32))), .ref (gAd E (56))] rfl ?_
          refine G.eqs [.int (nI (hd - 1 + 1)), .ref (gAd E (56))] (by rw [nI_1]) ?_
          refine G.rp ra4 hE 18 (setS (rLv (setS (rWrt R wf w b bo (rOld (rLW R) (hd - 1))) 20 (rS R 20 + 1)) hd (rOld (rLW R) (hd - 1)) bo bl) 18 (nI (hd - 1 + 1))) rfl rfl (by decide) rfl rfl rfl (tbd tv_X12_hand rfl) w_2083 (fun u11 r11 h11 => ?_)
          refine G.go tv_X12_hand 1 148 [(0, .ref (gAd E (56))), (1, .int (nI t)), (2, .ref (gAd E (79))), (3, .int (nI (0))), (4, .int (nI (hd - 1))), (5, .int (nI (rOld (rLW R) (hd - 1)))), (6, .int (nI ((hd - 1) + 1)))] [.ref (gAd E (56))] rfl ?_
          refine G.rg r11 hE 15 (.ref (gAd E (61))) (by decide) rfl (tbd tv_X12_hand rfl) w_2080 ?_
          refine G.go tv_X12_hand 2 154 [(0, .ref (gAd E (56))), (1, .int (nI t)), (2, .ref (gAd E (79))), (3, .int (nI (0))), (4, .int (nI (hd - 1))), (5, .int (nI (rOld (rLW R) (hd - 1)))), (6, .int (nI ((hd - 1) + 1)))] [.int (nI t), .int (nI (hd - 1)), .ref (gAd E (61))] rfl ?_
          refine G.raI (hd - 1) hE ⟨by decide, by decide⟩ r11.a15 (r11.p15 _) (by omega) (by decide) (tbd tv_X12_hand rfl) (fun u12 r12 h12 => ?_)
          refine G.go tv_X12_hand 1 156 [(0, .ref (gAd E (56))), (1, .int (nI t)), (2, .ref (gAd E (79))), (3, .int (nI (0))), (4, .int (nI (hd - 1))), (5, .int (nI (rOld (rLW R) (hd - 1)))), (6, .int (nI ((hd - 1) + 1)))] [.ref (gAd E (56))] rfl ?_
          refine G.rg r12 hE 39 (.ref (gAd E (76))) (by decide) rfl (tbd tv_X12_hand rfl) w_2104 ?_
          refine G.go tv_X12_hand 2 162 [(0, .ref (gAd E (56))), (1, .int (nI t)), (2, .ref (gAd E (79))), (3, .int (nI (0))), (4, .int (nI (hd - 1))), (5, .int (nI (rOld (rLW R) (hd - 1)))), (6, .int (nI ((hd - 1) + 1)))] [.int (nI (hd - 1)), .int (nI t), .ref (gAd E (76))] rfl ?_
          refine G.raI (t) hE ⟨by decide, by decide⟩ r12.a39 (r12.p39 _) (ht) (by decide) (tbd tv_X12_hand rfl) (fun u13 r13 h13 => ?_)
          refine G.go tv_X12_hand 1 164 [(0, .ref (gAd E (56))), (1, .int (nI t)), (2, .ref (gAd E (79))), (3, .int (nI (0))), (4, .int (nI (hd - 1))), (5, .int (nI (rOld (rLW R) (hd - 1)))), (6, .int (nI ((hd - 1) + 1)))] [.ref (gAd E (56))] rfl ?_
          refine G.rg r13 hE 16 (.ref (gAd E (62))) (by decide) rfl (tbd tv_X12_hand rfl) w_2081 ?_
          refine G.go tv_X12_hand 2 170 [(0, .ref (gAd E (56))), (1, .int (nI t)), (2, .ref (gAd E (79))), (3, .int (nI (0))), (4, .int (nI (hd - 1))), (5, .int (nI (rOld (rLW R) (hd - 1)))), (6, .int (nI ((hd - 1) + 1)))] [.ref (gAd E (56)), .int (nI (hd - 1)), .ref (gAd E (62))] rfl ?_
          refine G.rg r13 hE 19 (.long (rWh (rLv (setS (rWrt R wf w b bo (rOld (rLW R) (hd - 1))) 20 (rS R 20 + 1)) hd (rOld (rLW R) (hd - 1)) bo bl))) (by decide) rfl (tbd tv_X12_hand rfl) w_2084 ?_
          refine G.raJ (hd - 1) hE ⟨by decide, by decide⟩ r13.a16 (r13.p16 _) (by omega) (by decide) (tbd tv_X12_hand rfl) (fun u14 r14 h14 => ?_)
          refine G.go tv_X12_hand 2 176 [(0, .ref (gAd E (56))), (1, .int (nI t)), (2, .ref (gAd E (79))), (3, .int (nI (0))), (4, .int (nI (hd - 1))), (5, .int (nI (rOld (rLW R) (hd - 1)))), (6, .int (nI ((hd - 1) + 1)))] [.ref (gAd E (56)), .ref (gAd E (56))] rfl ?_
          refine G.rg r14 hE 19 (.long (rWh (rLv (setS (rWrt R wf w b bo (rOld (rLW R) (hd - 1))) 20 (rS R 20 + 1)) hd (rOld (rLW R) (hd - 1)) bo bl))) (by decide) rfl (tbd tv_X12_hand rfl) w_2084 ?_
          refine G.go tv_X12_hand 2 181 [(0, .ref (gAd E (56))), (1, .int (nI t)), (2, .ref (gAd E (79))), (3, .int (nI (0))), (4, .int (nI (hd - 1))), (5, .int (nI (rOld (rLW R) (hd - 1)))), (6, .int (nI ((hd - 1) + 1)))] [.long ((rWh (rLv (setS (rWrt R wf w b bo (rOld (rLW R) (hd - 1))) 20 (rS R 20 + 1)) hd (rOld (rLW R) (hd - 1)) bo bl)) + ((1 : Int64))), .ref (gAd E (56))] rfl ?_
          refine G.rp r14 hE 19 (setWh (setLW (setA (setA (setS (rLv (setS (rWrt R wf w b bo (rOld (rLW R) (hd - 1))) 20 (rS R 20 + 1)) hd (rOld (rLW R) (hd - 1)) bo bl) 18 (nI (hd - 1 + 1))) 15 (upd (rA (rLv (setS (rWrt R wf w b bo (rOld (rLW R) (hd - 1))) 20 (rS R 20 + 1)) hd (rOld (rLW R) (hd - 1)) bo bl) 15) (hd - 1) (nI t))) 39 (upd (rA (rLv (setS (rWrt R wf w b bo (rOld (rLW R) (hd - 1))) 20 (rS R 20 + 1)) hd (rOld (rLW R) (hd - 1)) bo bl) 39) (t) (nI (hd - 1)))) (vp_updL (rLW (rLv (setS (rWrt R wf w b bo (rOld (rLW R) (hd - 1))) 20 (rS R 20 + 1)) hd (rOld (rLW R) (hd - 1)) bo bl)) (hd - 1) (rWh (rLv (setS (rWrt R wf w b bo (rOld (rLW R) (hd - 1))) 20 (rS R 20 + 1)) hd (rOld (rLW R) (hd - 1)) bo bl)))) ((rWh (rLv (setS (rWrt R wf w b bo (rOld (rLW R) (hd - 1))) 20 (rS R 20 + 1)) hd (rOld (rLW R) (hd - 1)) bo bl)) + ((1 : Int64)))) rfl rfl (by decide) rfl rfl rfl (tbd tv_X12_hand rfl) w_2084 (fun u15 r15 h15 => ?_)
          refine G.go tv_X12_hand 3 187 [(0, .ref (gAd E (56))), (1, .int (nI t)), (2, .ref (gAd E (79))), (3, .int (nI (0))), (4, .int (nI (hd - 1))), (5, .int (nI (rOld (rLW R) (hd - 1)))), (6, .int (nI ((hd - 1) + 1)))] [.ref (gAd E (56)), .int (nI (0)), .ref (gAd E (79))] rfl ?_
          refine G.rg r15 hE 17 (.ref (gAd E (63))) (by decide) rfl (tbd tv_X12_hand rfl) w_2082 ?_
          refine G.go tv_X12_hand 3 196 [(0, .ref (gAd E (56))), (1, .int (nI t)), (2, .ref (gAd E (79))), (3, .int (nI (0))), (4, .int (nI (hd - 1))), (5, .int (nI (rOld (rLW R) (hd - 1)))), (6, .int (nI ((hd - 1) + 1)))] [.int (((128 : Int32)) * (nI (hd - 1))), .ref (gAd E (63)), .int (nI (0)), .ref (gAd E (79))] rfl ?_
          refine G.eqs [.int (nI (128 * (hd - 1))), .ref (gAd E (63)), .int (nI (0)), .ref (gAd E (79))] (by rw [show (128 : Int32) = nI 128 from rfl, pk_mul]) ?_
          refine G.callS [.ref (gAd E (79)), .int (nI (0)), .ref (gAd E (63)), .int (nI (128 * (hd - 1)))] [] (c_X12_move E _ 79 128 63 8192 (rA (rLv (setS (rWrt R wf w b bo (rOld (rLW R) (hd - 1))) 20 (rS R 20 + 1)) hd (rOld (rLW R) (hd - 1)) bo bl) 44) (rA (rLv (setS (rWrt R wf w b bo (rOld (rLW R) (hd - 1))) 20 (rS R 20 + 1)) hd (rOld (rLW R) (hd - 1)) bo bl) 17) (0) (128 * (hd - 1)) (by omega) (by omega) (by decide) r15.a44 (by decide) (by decide) (by omega) (by omega) hby2 r15.a17) cw_X12_190 w_2307 (Nat.le_of_ble_eq_true rfl) rfl (Nat.le_of_ble_eq_true rfl) (tbd tv_X12_hand rfl) (fun v5 f5 q5 => ?_) (fun _ _ h => h.elim)
          obtain ⟨rfl, ea5⟩ := q5
          refine G.eqs [] rfl ?_
          have ra5 : RfV E f5 (setA (setWh (setLW (setA (setA (setS (rLv (setS (rWrt R wf w b bo (rOld (rLW R) (hd - 1))) 20 (rS R 20 + 1)) hd (rOld (rLW R) (hd - 1)) bo bl) 18 (nI (hd - 1 + 1))) 15 (upd (rA (rLv (setS (rWrt R wf w b bo (rOld (rLW R) (hd - 1))) 20 (rS R 20 + 1)) hd (rOld (rLW R) (hd - 1)) bo bl) 15) (hd - 1) (nI t))) 39 (upd (rA (rLv (setS (rWrt R wf w b bo (rOld (rLW R) (hd - 1))) 20 (rS R 20 + 1)) hd (rOld (rLW R) (hd - 1)) bo bl) 39) (t) (nI (hd - 1)))) (vp_updL (rLW (rLv (setS (rWrt R wf w b bo (rOld (rLW R) (hd - 1))) 20 (rS R 20 + 1)) hd (rOld (rLW R) (hd - 1)) bo bl)) (hd - 1) (rWh (rLv (setS (rWrt R wf w b bo (rOld (rLW R) (hd - 1))) 20 (rS R 20 + 1)) hd (rOld (rLW R) (hd - 1)) bo bl)))) ((rWh (rLv (setS (rWrt R wf w b bo (rOld (rLW R) (hd - 1))) 20 (rS R 20 + 1)) hd (rOld (rLW R) (hd - 1)) bo bl)) + ((1 : Int64)))) 17 (va_cpy (rA (rLv (setS (rWrt R wf w b bo (rOld (rLW R) (hd - 1))) 20 (rS R 20 + 1)) hd (rOld (rLW R) (hd - 1)) bo bl) 44) (rA (rLv (setS (rWrt R wf w b bo (rOld (rLW R) (hd - 1))) 20 (rS R 20 + 1)) hd (rOld (rLW R) (hd - 1)) bo bl) 17) (0) (128 * (hd - 1)) 128)) := RfV.ar (r15.p17 _) ea5
          have fa5 : Fr RfK u15 f5 := Fr.ar ⟨by decide, by decide⟩ ea5
          exact G.vret rfl ⟨rfl, by unfold rHand; rw [if_neg c4, if_pos hA, e3, hB, nI_clamp (by omega), if_pos hfull, if_pos hc, ← rWr_eq hd0 hb hb1 hbo hbo1, ← rLe_eq d1 hbo2 hbo1 hbl2 hbl1]; exact ra5, (((((((((h0).tr fa3 (fun _ h => h)).tr h10 (fun _ h => h)).tr fa4 (fun _ h => h)).tr h11 (fun _ h => h)).tr h12 (fun _ h => h)).tr h13 (fun _ h => h)).tr h14 (fun _ h => h)).tr h15 (fun _ h => h)).tr fa5 (fun _ h => h)⟩ (tbd tv_X12_hand rfl)
    · skip
      exact G.vret rfl ⟨rfl, by unfold rHand; rw [if_pos c4]; exact r, Fr.rf⟩ (tbd tv_X12_hand rfl)
  · have hne : ¬ nI k = -1 := fun q => by
      have := nI_pos (n := k) (by omega)
      rw [q] at this
      exact this (by decide)
    refine G.go tv_X12_hand 1 1 [(0, .ref (gAd E (56))), (1, .int (nI t)), (2, .ref (gAd E (79))), (3, .int (nI (0)))] [.ref (gAd E (56))] rfl ?_
    refine G.rg r hE 11 (.int (rS R 11)) (by decide) rfl (tbd tv_X12_hand rfl) w_2076 ?_
    refine G.if_ne 8 (tbd tv_X12_hand rfl) (by decide) (fun c4 => ?_) (fun c4 => ?_)
    · skip
      refine G.go tv_X12_hand 2 10 [(0, .ref (gAd E (56))), (1, .int (nI t)), (2, .ref (gAd E (79))), (3, .int (nI (0)))] [.int (nI t), .ref (gAd E (56))] rfl ?_
      refine G.callV (56) [.int (nI t)] [] (c_X12_heldAt E _ (R) hE r t ht) cls_X12 (by omega) (r.o) cw_X12_197 w_2284 w_57 (Nat.le_of_ble_eq_true rfl) rfl (Nat.le_of_ble_eq_true rfl) (tbd tv_X12_hand rfl) (fun v1 f1 q1 => ?_) (fun _ _ h => h.elim)
      obtain ⟨rfl, ra1, fa1⟩ := q1
      refine G.eqs [.int (rA R 39 t)] rfl ?_
      refine G.eqs [.int (nI k)] (by rw [hk2]) ?_
      refine G.go tv_X12_hand 3 18 [(0, .ref (gAd E (56))), (1, .int (nI t)), (2, .ref (gAd E (79))), (3, .int (nI (0))), (4, .int (nI k))] [.int ((-1 : Int32)), .int (nI k)] rfl ?_
      refine G.cmp_ne 125 (tbd tv_X12_hand rfl) (by decide) (fun c18 => ?_) (fun c18 => absurd c18 (hne))
      refine G.go tv_X12_hand 2 128 [(0, .ref (gAd E (56))), (1, .int (nI t)), (2, .ref (gAd E (79))), (3, .int (nI (0))), (4, .int (nI k))] [.int ((-1 : Int32)), .int (nI k)] rfl ?_
      refine G.cmp_ne 147 (tbd tv_X12_hand rfl) (by decide) (fun c128 => ?_) (fun c128 => absurd c128 (hne))
      refine G.go tv_X12_hand 1 148 [(0, .ref (gAd E (56))), (1, .int (nI t)), (2, .ref (gAd E (79))), (3, .int (nI (0))), (4, .int (nI k))] [.ref (gAd E (56))] rfl ?_
      refine G.rg ra1 hE 15 (.ref (gAd E (61))) (by decide) rfl (tbd tv_X12_hand rfl) w_2080 ?_
      refine G.go tv_X12_hand 2 154 [(0, .ref (gAd E (56))), (1, .int (nI t)), (2, .ref (gAd E (79))), (3, .int (nI (0))), (4, .int (nI k))] [.int (nI t), .int (nI k), .ref (gAd E (61))] rfl ?_
      refine G.raI (k) hE ⟨by decide, by decide⟩ ra1.a15 (ra1.p15 _) (by omega) (by decide) (tbd tv_X12_hand rfl) (fun u1 r1 h1 => ?_)
      refine G.go tv_X12_hand 1 156 [(0, .ref (gAd E (56))), (1, .int (nI t)), (2, .ref (gAd E (79))), (3, .int (nI (0))), (4, .int (nI k))] [.ref (gAd E (56))] rfl ?_
      refine G.rg r1 hE 39 (.ref (gAd E (76))) (by decide) rfl (tbd tv_X12_hand rfl) w_2104 ?_
      refine G.go tv_X12_hand 2 162 [(0, .ref (gAd E (56))), (1, .int (nI t)), (2, .ref (gAd E (79))), (3, .int (nI (0))), (4, .int (nI k))] [.int (nI k), .int (nI t), .ref (gAd E (76))] rfl ?_
      refine G.raI (t) hE ⟨by decide, by decide⟩ r1.a39 (r1.p39 _) (ht) (by decide) (tbd tv_X12_hand rfl) (fun u2 r2 h2 => ?_)
      refine G.go tv_X12_hand 1 164 [(0, .ref (gAd E (56))), (1, .int (nI t)), (2, .ref (gAd E (79))), (3, .int (nI (0))), (4, .int (nI k))] [.ref (gAd E (56))] rfl ?_
      refine G.rg r2 hE 16 (.ref (gAd E (62))) (by decide) rfl (tbd tv_X12_hand rfl) w_2081 ?_
      refine G.go tv_X12_hand 2 170 [(0, .ref (gAd E (56))), (1, .int (nI t)), (2, .ref (gAd E (79))), (3, .int (nI (0))), (4, .int (nI k))] [.ref (gAd E (56)), .int (nI k), .ref (gAd E (62))] rfl ?_
      refine G.rg r2 hE 19 (.long (rWh R)) (by decide) rfl (tbd tv_X12_hand rfl) w_2084 ?_
      refine G.raJ (k) hE ⟨by decide, by decide⟩ r2.a16 (r2.p16 _) (by omega) (by decide) (tbd tv_X12_hand rfl) (fun u3 r3 h3 => ?_)
      refine G.go tv_X12_hand 2 176 [(0, .ref (gAd E (56))), (1, .int (nI t)), (2, .ref (gAd E (79))), (3, .int (nI (0))), (4, .int (nI k))] [.ref (gAd E (56)), .ref (gAd E (56))] rfl ?_
      refine G.rg r3 hE 19 (.long (rWh R)) (by decide) rfl (tbd tv_X12_hand rfl) w_2084 ?_
      refine G.go tv_X12_hand 2 181 [(0, .ref (gAd E (56))), (1, .int (nI t)), (2, .ref (gAd E (79))), (3, .int (nI (0))), (4, .int (nI k))] [.long ((rWh R) + ((1 : Int64))), .ref (gAd E (56))] rfl ?_
      refine G.rp r3 hE 19 (setWh (setLW (setA (setA (R) 15 (upd (rA R 15) (k) (nI t))) 39 (upd (rA R 39) (t) (nI k))) (vp_updL (rLW R) (k) (rWh R))) ((rWh R) + ((1 : Int64)))) rfl rfl (by decide) rfl rfl rfl (tbd tv_X12_hand rfl) w_2084 (fun u4 r4 h4 => ?_)
      refine G.go tv_X12_hand 3 187 [(0, .ref (gAd E (56))), (1, .int (nI t)), (2, .ref (gAd E (79))), (3, .int (nI (0))), (4, .int (nI k))] [.ref (gAd E (56)), .int (nI (0)), .ref (gAd E (79))] rfl ?_
      refine G.rg r4 hE 17 (.ref (gAd E (63))) (by decide) rfl (tbd tv_X12_hand rfl) w_2082 ?_
      refine G.go tv_X12_hand 3 196 [(0, .ref (gAd E (56))), (1, .int (nI t)), (2, .ref (gAd E (79))), (3, .int (nI (0))), (4, .int (nI k))] [.int (((128 : Int32)) * (nI k)), .ref (gAd E (63)), .int (nI (0)), .ref (gAd E (79))] rfl ?_
      refine G.eqs [.int (nI (128 * (k))), .ref (gAd E (63)), .int (nI (0)), .ref (gAd E (79))] (by rw [show (128 : Int32) = nI 128 from rfl, pk_mul]) ?_
      refine G.callS [.ref (gAd E (79)), .int (nI (0)), .ref (gAd E (63)), .int (nI (128 * (k)))] [] (c_X12_move E _ 79 128 63 8192 (rA R 44) (rA R 17) (0) (128 * (k)) (by omega) (by omega) (by decide) r4.a44 (by decide) (by decide) (by omega) (by omega) hby r4.a17) cw_X12_190 w_2307 (Nat.le_of_ble_eq_true rfl) rfl (Nat.le_of_ble_eq_true rfl) (tbd tv_X12_hand rfl) (fun v2 f2 q2 => ?_) (fun _ _ h => h.elim)
      obtain ⟨rfl, ea2⟩ := q2
      refine G.eqs [] rfl ?_
      have ra2 : RfV E f2 (setA (setWh (setLW (setA (setA (R) 15 (upd (rA R 15) (k) (nI t))) 39 (upd (rA R 39) (t) (nI k))) (vp_updL (rLW R) (k) (rWh R))) ((rWh R) + ((1 : Int64)))) 17 (va_cpy (rA R 44) (rA R 17) (0) (128 * (k)) 128)) := RfV.ar (r4.p17 _) ea2
      have fa2 : Fr RfK u4 f2 := Fr.ar ⟨by decide, by decide⟩ ea2
      exact G.vret rfl ⟨rfl, by unfold rHand; rw [if_neg c4, if_neg (by rw [hk2]; exact hne), hk2, nI_clamp (by omega)]; exact ra2, (((((fa1).tr h1 (fun _ h => h)).tr h2 (fun _ h => h)).tr h3 (fun _ h => h)).tr h4 (fun _ h => h)).tr fa2 (fun _ h => h)⟩ (tbd tv_X12_hand rfl)
    · skip
      exact G.vret rfl ⟨rfl, by unfold rHand; rw [if_pos c4]; exact r, Fr.rf⟩ (tbd tv_X12_hand rfl)
