theorem up_id {f : Nat → va_E} {k : Nat} {e : va_E} (he : f k = e) : f = va_up f k e := by
  funext i
  by_cases q : i = k
  · rw [q]
    exact he.trans up_e.symm
  · exact (if_neg q).symm
/-- f with x at all places from a to b -/
def flt (g : Nat → Int32) (a b : Nat) (x : Int32) : Nat → Int32 := fun i => if a ≤ i ∧ i < b then x else g i
theorem flt_0 {g : Nat → Int32} {a : Nat} {x : Int32} : flt g a a x = g := by
  funext i
  unfold flt
  rw [if_neg (by omega)]
theorem flt_s {g : Nat → Int32} {a b : Nat} {x : Int32} (h : a ≤ b) : upd (flt g a b x) b x = flt g a (b + 1) x := by
  funext i
  by_cases e : i = b
  · subst e
    rw [pk_us]
    unfold flt
    rw [if_pos ⟨h, by omega⟩]
  · rw [pk_un e]
    unfold flt
    by_cases q : a ≤ i ∧ i < b
    · rw [if_pos q, if_pos ⟨q.1, by omega⟩]
    · rw [if_neg q, if_neg (by omega)]
theorem Byt_flt {g : Nat → Int32} {a b : Nat} {x : Int32} (h : Byt g) (hx : fits .byte (.int x) = true) : Byt (flt g a b x) := by
  intro i
  unfold flt
  split
  · exact hx
  · exact h i
def tb_J7_fill_53178 : List (Nat × Instr × Nat) := [(0, .iconst 0, 1), (1, .istore_n 2, 1), (2, .aload_n 0, 1), (3, .arraylength, 1), (4, .istore_n 3, 1), (5, .iload_n 2, 1), (6, .iload_n 3, 1), (7, .if_icmp .ge 13, 3), (10, .aload_n 0, 1), (11, .iload_n 2, 1), (12, .iload_n 1, 1), (13, .iastore, 1), (14, .iinc 2 1, 3), (17, .goto (-12), 3), (20, .return_, 1)]
theorem tv_J7_fill_53178 : Tv cJ7_fill_53178 tb_J7_fill_53178 := by
  unfold Tv
  decide +kernel
set_option maxRecDepth 100000 in
set_option maxHeartbeats 4000000 in
theorem fl_J7_fill_53178 (E : gE) (f : Nat → va_E) (sz : Nat) (A : Nat → Prop) (Q : gQ) (k n : Nat) (g : Nat → Int32) (x : Int32) (hk : k < gN E) (hn : n < 2 ^ 31) (hq : Q.1 none (va_up f k (oI (gDA E) n (flt g 0 n (x))))) : ∀ (d j : Nat), j + d = n → G E (1, yJ7_fill_53178, 4, none, sz, A) cJ7_fill_53178 (gO E (1, yJ7_fill_53178, 4, none, sz, A) Q) 5 [(0, .ref (gAd E (k))), (1, .int (x)), (2, .int (nI (j))), (3, .int (nI n))] [] (va_up f k (oI (gDA E) n (flt g 0 j (x)))) := by
  intro d
  induction d with
  | zero =>
    intro j e
    have e : n = j := e.symm
    have hq : Q.1 none (va_up f k (oI (gDA E) n (flt g 0 j (x)))) := by rw [e] at hq ⊢; exact hq
    refine G.go tv_J7_fill_53178 2 7 [(0, .ref (gAd E (k))), (1, .int (x)), (2, .int (nI (j))), (3, .int (nI n))] [.int (nI n), .int (nI (j))] rfl ?_
    refine G.cmp_ge 20 (tbd tv_J7_fill_53178 rfl) (by decide) (fun c7 => ?_) (fun c7 => absurd (by rw [e]; exact nI_le (Nat.le_refl _) (by omega)) c7)
    exact G.vret rfl hq (tbd tv_J7_fill_53178 rfl)
  | succ d ih =>
    intro j e
    refine G.go tv_J7_fill_53178 2 7 [(0, .ref (gAd E (k))), (1, .int (x)), (2, .int (nI (j))), (3, .int (nI n))] [.int (nI n), .int (nI (j))] rfl ?_
    refine G.cmp_ge 20 (tbd tv_J7_fill_53178 rfl) (by decide) (fun c7 => absurd c7 (nI_ge (by omega) (by omega))) (fun c7 => ?_)
    refine G.go tv_J7_fill_53178 3 13 [(0, .ref (gAd E (k))), (1, .int (x)), (2, .int (nI (j))), (3, .int (nI n))] [.int (x), .int (nI (j)), .ref (gAd E (k))] rfl ?_
    refine G.iastN (k) (j) hk (up_e) (by omega) (hn) (tbd tv_J7_fill_53178 rfl) ?_
    refine G.go tv_J7_fill_53178 2 5 [(0, .ref (gAd E (k))), (1, .int (x)), (2, .int (nI (j) + (1 : Int32))), (3, .int (nI n))] [] rfl ?_
    refine G.eql [(0, .ref (gAd E (k))), (1, .int (x)), (2, .int (nI (j + 1))), (3, .int (nI n))] (by rw [nI_1]) ?_
    refine G.eqf (va_up f k (oI (gDA E) n (flt g 0 (j + 1) (x)))) (by rw [bx_uu, flt_s (Nat.zero_le j)]) ?_
    exact ih (j + 1) (by omega)
set_option maxRecDepth 100000 in
set_option maxHeartbeats 4000000 in
theorem c_J7_fill_53178 (E : gE) (f : Nat → va_E) (k n : Nat) (g : Nat → Int32) (x : Int32) (hk : k < gN E) (he : f k = oI (gDA E) n g) (hn : n < 2 ^ 31) : Ct E 1 yJ7_fill_53178 cJ7_fill_53178 4 none [.ref (gAd E (k)), .int (x)] f (fun v f' => v = none ∧ f' = va_up f k (oI (gDA E) n (flt g 0 n (x))), fun _ _ => False) := by
  refine Ct.of (by decide) (Nat.le_of_ble_eq_true rfl) (fun sz => ?_)
  refine G.eql [(0, .ref (gAd E (k))), (1, .int (x))] rfl ?_
  refine G.go tv_J7_fill_53178 3 3 [(0, .ref (gAd E (k))), (1, .int (x)), (2, .int ((0 : Int32)))] [.ref (gAd E (k))] rfl ?_
  refine G.alen (k) 1 hk (he) rfl rfl (tbd tv_J7_fill_53178 rfl) ?_
  refine G.go tv_J7_fill_53178 1 5 [(0, .ref (gAd E (k))), (1, .int (x)), (2, .int ((0 : Int32))), (3, .int (nI (n)))] [] rfl ?_
  refine G.eqf (va_up f k (oI (gDA E) n (flt g 0 0 (x)))) (by rw [flt_0]; exact up_id he) ?_
  refine fl_J7_fill_53178 E f _ _ _ k n g x hk hn ?_ n 0 (by omega)
  exact ⟨rfl, rfl⟩
def tb_J7_fill_031fb : List (Nat × Instr × Nat) := [(0, .iconst 0, 1), (1, .istore_n 2, 1), (2, .aload_n 0, 1), (3, .arraylength, 1), (4, .istore_n 3, 1), (5, .iload_n 2, 1), (6, .iload_n 3, 1), (7, .if_icmp .ge 13, 3), (10, .aload_n 0, 1), (11, .iload_n 2, 1), (12, .iload_n 1, 1), (13, .bastore, 1), (14, .iinc 2 1, 3), (17, .goto (-12), 3), (20, .return_, 1)]
theorem tv_J7_fill_031fb : Tv cJ7_fill_031fb tb_J7_fill_031fb := by
  unfold Tv
  decide +kernel
set_option maxRecDepth 100000 in
set_option maxHeartbeats 4000000 in
theorem fl_J7_fill_031fb (E : gE) (f : Nat → va_E) (sz : Nat) (A : Nat → Prop) (Q : gQ) (k n : Nat) (g : Nat → Int32) (x : Int32) (hk : k < gN E) (hn : n < 2 ^ 31) (hq : Q.1 none (va_up f k (oB (gDA E) n (flt g 0 n (vp_nar .byte x))))) : ∀ (d j : Nat), j + d = n → G E (1, yJ7_fill_031fb, 4, none, sz, A) cJ7_fill_031fb (gO E (1, yJ7_fill_031fb, 4, none, sz, A) Q) 5 [(0, .ref (gAd E (k))), (1, .int (x)), (2, .int (nI (j))), (3, .int (nI n))] [] (va_up f k (oB (gDA E) n (flt g 0 j (vp_nar .byte x)))) := by
  intro d
  induction d with
  | zero =>
    intro j e
    have e : n = j := e.symm
    have hq : Q.1 none (va_up f k (oB (gDA E) n (flt g 0 j (vp_nar .byte x)))) := by rw [e] at hq ⊢; exact hq
    refine G.go tv_J7_fill_031fb 2 7 [(0, .ref (gAd E (k))), (1, .int (x)), (2, .int (nI (j))), (3, .int (nI n))] [.int (nI n), .int (nI (j))] rfl ?_
    refine G.cmp_ge 20 (tbd tv_J7_fill_031fb rfl) (by decide) (fun c7 => ?_) (fun c7 => absurd (by rw [e]; exact nI_le (Nat.le_refl _) (by omega)) c7)
    exact G.vret rfl hq (tbd tv_J7_fill_031fb rfl)
  | succ d ih =>
    intro j e
    refine G.go tv_J7_fill_031fb 2 7 [(0, .ref (gAd E (k))), (1, .int (x)), (2, .int (nI (j))), (3, .int (nI n))] [.int (nI n), .int (nI (j))] rfl ?_
    refine G.cmp_ge 20 (tbd tv_J7_fill_031fb rfl) (by decide) (fun c7 => absurd c7 (nI_ge (by omega) (by omega))) (fun c7 => ?_)
    refine G.go tv_J7_fill_031fb 3 13 [(0, .ref (gAd E (k))), (1, .int (x)), (2, .int (nI (j))), (3, .int (nI n))] [.int (x), .int (nI (j)), .ref (gAd E (k))] rfl ?_
    refine G.bastN (k) (j) hk (up_e) (by omega) (hn) (tbd tv_J7_fill_031fb rfl) ?_
    refine G.go tv_J7_fill_031fb 2 5 [(0, .ref (gAd E (k))), (1, .int (x)), (2, .int (nI (j) + (1 : Int32))), (3, .int (nI n))] [] rfl ?_
    refine G.eql [(0, .ref (gAd E (k))), (1, .int (x)), (2, .int (nI (j + 1))), (3, .int (nI n))] (by rw [nI_1]) ?_
    refine G.eqf (va_up f k (oB (gDA E) n (flt g 0 (j + 1) (vp_nar .byte x)))) (by rw [bx_uu, flt_s (Nat.zero_le j)]) ?_
    exact ih (j + 1) (by omega)
set_option maxRecDepth 100000 in
set_option maxHeartbeats 4000000 in
theorem c_J7_fill_031fb (E : gE) (f : Nat → va_E) (k n : Nat) (g : Nat → Int32) (x : Int32) (hk : k < gN E) (he : f k = oB (gDA E) n g) (hn : n < 2 ^ 31) : Ct E 1 yJ7_fill_031fb cJ7_fill_031fb 4 none [.ref (gAd E (k)), .int (x)] f (fun v f' => v = none ∧ f' = va_up f k (oB (gDA E) n (flt g 0 n (vp_nar .byte x))), fun _ _ => False) := by
  refine Ct.of (by decide) (Nat.le_of_ble_eq_true rfl) (fun sz => ?_)
  refine G.eql [(0, .ref (gAd E (k))), (1, .int (x))] rfl ?_
  refine G.go tv_J7_fill_031fb 3 3 [(0, .ref (gAd E (k))), (1, .int (x)), (2, .int ((0 : Int32)))] [.ref (gAd E (k))] rfl ?_
  refine G.alen (k) 0 hk (he) rfl rfl (tbd tv_J7_fill_031fb rfl) ?_
  refine G.go tv_J7_fill_031fb 1 5 [(0, .ref (gAd E (k))), (1, .int (x)), (2, .int ((0 : Int32))), (3, .int (nI (n)))] [] rfl ?_
  refine G.eqf (va_up f k (oB (gDA E) n (flt g 0 0 (vp_nar .byte x)))) (by rw [flt_0]; exact up_id he) ?_
  refine fl_J7_fill_031fb E f _ _ _ k n g x hk hn ?_ n 0 (by omega)
  exact ⟨rfl, rfl⟩
