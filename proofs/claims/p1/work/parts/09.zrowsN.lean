/-! ===== rows with indices that are natural numbers; memory lemmas ===== -/
section GLG
theorem up_e {f : Nat → va_E} {k : Nat} {e : va_E} : va_up f k e k = e := if_pos rfl
theorem up_n {f : Nat → va_E} {j k : Nat} {e x : va_E} (h : j ≠ k) (p : f j = x) : va_up f k e j = x := (if_neg h).trans p
theorem G.go {E : gE} {K : gM} {cc : ByteArray} {Q : gU} {f : Nat → va_E} {tb : List (Nat × Instr × Nat)} (ht : Tv cc tb) (n : Nat) {pc : Nat} {lv : List (Nat × Value)} {st : List Value} (pc' : Nat) (lv' : List (Nat × Value)) (st' : List Value) (h : sxr K.2.2.1 tb n (pc, lv, st) = some (pc', lv', st')) (k : G E K cc Q pc' lv' st' f) : G E K cc Q pc lv st f := G.run ht n (pc', lv', st') h k
theorem G.eqs {E : gE} {K : gM} {cc : ByteArray} {Q : gU} {f : Nat → va_E} {pc : Nat} {lv : List (Nat × Value)} {st : List Value} (st' : List Value) (h : st = st') (k : G E K cc Q pc lv st' f) : G E K cc Q pc lv st f := h ▸ k
theorem G.eql {E : gE} {K : gM} {cc : ByteArray} {Q : gU} {f : Nat → va_E} {pc : Nat} {lv : List (Nat × Value)} {st : List Value} (lv' : List (Nat × Value)) (h : lv = lv') (k : G E K cc Q pc lv' st f) : G E K cc Q pc lv st f := h ▸ k
theorem G.eqf {E : gE} {K : gM} {cc : ByteArray} {Q : gU} {f : Nat → va_E} {pc : Nat} {lv : List (Nat × Value)} {st : List Value} (f' : Nat → va_E) (h : f = f') (k : G E K cc Q pc lv st f') : G E K cc Q pc lv st f := h ▸ k
theorem G.ialdN {E : gE} {K : gM} {cc : ByteArray} {Q : gU} {f : Nat → va_E} {pc : Nat} {lv : List (Nat × Value)} {st : List Value} (k t : Nat) {n : Nat} {g : Nat → Int32} (hk : k < gN E) (he : f k = oI (gDA E) n g) (ht : t < n) (hn : n < 2 ^ 31) (d : decode cc pc = .ok (.iaload, 1)) (kk : G E K cc Q (pc + 1) lv (.int (g t) :: st) f) : G E K cc Q pc lv (.int (nI t) :: .ref (gAd E k) :: st) f := by
  have e : (nI t).toNatClampNeg = t := nI_clamp (by omega)
  refine G.iald k hk he (vp_in_nI ht hn) d ?_
  rw [e]
  exact kk
theorem G.baldN {E : gE} {K : gM} {cc : ByteArray} {Q : gU} {f : Nat → va_E} {pc : Nat} {lv : List (Nat × Value)} {st : List Value} (k t : Nat) {n : Nat} {g : Nat → Int32} (hk : k < gN E) (he : f k = oB (gDA E) n g) (ht : t < n) (hn : n < 2 ^ 31) (d : decode cc pc = .ok (.baload, 1)) (kk : G E K cc Q (pc + 1) lv (.int (g t) :: st) f) : G E K cc Q pc lv (.int (nI t) :: .ref (gAd E k) :: st) f := by
  have e : (nI t).toNatClampNeg = t := nI_clamp (by omega)
  refine G.bald k hk he (vp_in_nI ht hn) d ?_
  rw [e]
  exact kk
theorem G.zaldN {E : gE} {K : gM} {cc : ByteArray} {Q : gU} {f : Nat → va_E} {pc : Nat} {lv : List (Nat × Value)} {st : List Value} (k t : Nat) {n : Nat} {g : Nat → Int32} (hk : k < gN E) (he : f k = oZ (gDA E) n g) (ht : t < n) (hn : n < 2 ^ 31) (d : decode cc pc = .ok (.baload, 1)) (kk : G E K cc Q (pc + 1) lv (.int (g t) :: st) f) : G E K cc Q pc lv (.int (nI t) :: .ref (gAd E k) :: st) f := by
  have e : (nI t).toNatClampNeg = t := nI_clamp (by omega)
  refine G.zald k hk he (vp_in_nI ht hn) d ?_
  rw [e]
  exact kk
theorem G.laldN {E : gE} {K : gM} {cc : ByteArray} {Q : gU} {f : Nat → va_E} {pc : Nat} {lv : List (Nat × Value)} {st : List Value} (k t : Nat) {n : Nat} {g : Nat → Int64} (hk : k < gN E) (he : f k = oJ (gDA E) n g) (ht : t < n) (hn : n < 2 ^ 31) (d : decode cc pc = .ok (.laload, 1)) (kk : G E K cc Q (pc + 1) lv (.long (g t) :: st) f) : G E K cc Q pc lv (.int (nI t) :: .ref (gAd E k) :: st) f := by
  have e : (nI t).toNatClampNeg = t := nI_clamp (by omega)
  refine G.lald k hk he (vp_in_nI ht hn) d ?_
  rw [e]
  exact kk
theorem G.aaldN {E : gE} {K : gM} {cc : ByteArray} {Q : gU} {f : Nat → va_E} {pc : Nat} {lv : List (Nat × Value)} {st : List Value} (k t : Nat) {n : Nat} {g : Nat → Option Nat} (hk : k < gN E) (he : f k = oR (gDA E) n g) (ht : t < n) (hn : n < 2 ^ 31) (d : decode cc pc = .ok (.aaload, 1)) (kk : G E K cc Q (pc + 1) lv (va_rf (g t) :: st) f) : G E K cc Q pc lv (.int (nI t) :: .ref (gAd E k) :: st) f := by
  have e : (nI t).toNatClampNeg = t := nI_clamp (by omega)
  refine G.aald k hk he (vp_in_nI ht hn) d ?_
  rw [e]
  exact kk
theorem G.iastN {E : gE} {K : gM} {cc : ByteArray} {Q : gU} {f : Nat → va_E} {pc : Nat} {lv : List (Nat × Value)} {st : List Value} (k t : Nat) {n : Nat} {g : Nat → Int32} {x : Int32} (hk : k < gN E) (he : f k = oI (gDA E) n g) (ht : t < n) (hn : n < 2 ^ 31) (d : decode cc pc = .ok (.iastore, 1)) (kk : G E K cc Q (pc + 1) lv st (va_up f k (oI (gDA E) n (upd g t x)))) : G E K cc Q pc lv (.int x :: .int (nI t) :: .ref (gAd E k) :: st) f := by
  have e : (nI t).toNatClampNeg = t := nI_clamp (by omega)
  refine G.iast k hk he (vp_in_nI ht hn) d ?_
  rw [e]
  exact kk
theorem G.bastN {E : gE} {K : gM} {cc : ByteArray} {Q : gU} {f : Nat → va_E} {pc : Nat} {lv : List (Nat × Value)} {st : List Value} (k t : Nat) {n : Nat} {g : Nat → Int32} {x : Int32} (hk : k < gN E) (he : f k = oB (gDA E) n g) (ht : t < n) (hn : n < 2 ^ 31) (d : decode cc pc = .ok (.bastore, 1)) (kk : G E K cc Q (pc + 1) lv st (va_up f k (oB (gDA E) n (upd g t (vp_nar .byte x))))) : G E K cc Q pc lv (.int x :: .int (nI t) :: .ref (gAd E k) :: st) f := by
  have e : (nI t).toNatClampNeg = t := nI_clamp (by omega)
  refine G.bast k hk he (vp_in_nI ht hn) d ?_
  rw [e]
  exact kk
theorem G.zastN {E : gE} {K : gM} {cc : ByteArray} {Q : gU} {f : Nat → va_E} {pc : Nat} {lv : List (Nat × Value)} {st : List Value} (k t : Nat) {n : Nat} {g : Nat → Int32} {x : Int32} (hk : k < gN E) (he : f k = oZ (gDA E) n g) (ht : t < n) (hn : n < 2 ^ 31) (d : decode cc pc = .ok (.bastore, 1)) (kk : G E K cc Q (pc + 1) lv st (va_up f k (oZ (gDA E) n (upd g t (vp_nar .boolean x))))) : G E K cc Q pc lv (.int x :: .int (nI t) :: .ref (gAd E k) :: st) f := by
  have e : (nI t).toNatClampNeg = t := nI_clamp (by omega)
  refine G.zast k hk he (vp_in_nI ht hn) d ?_
  rw [e]
  exact kk
theorem G.lastN {E : gE} {K : gM} {cc : ByteArray} {Q : gU} {f : Nat → va_E} {pc : Nat} {lv : List (Nat × Value)} {st : List Value} (k t : Nat) {n : Nat} {g : Nat → Int64} {x : Int64} (hk : k < gN E) (he : f k = oJ (gDA E) n g) (ht : t < n) (hn : n < 2 ^ 31) (d : decode cc pc = .ok (.lastore, 1)) (kk : G E K cc Q (pc + 1) lv st (va_up f k (oJ (gDA E) n (vp_updL g t x)))) : G E K cc Q pc lv (.long x :: .int (nI t) :: .ref (gAd E k) :: st) f := by
  have e : (nI t).toNatClampNeg = t := nI_clamp (by omega)
  refine G.last k hk he (vp_in_nI ht hn) d ?_
  rw [e]
  exact kk
theorem G.putfS {E : gE} {K : gM} {cc : ByteArray} {Q : gU} {f : Nat → va_E} {pc : Nat} {lv : List (Nat × Value)} {st : List Value} {ci : Nat} {C : String} {T : u_T} {N : Nat} {ty : Nat → FieldType} (hcl : Cls ci C T N ty) (k j : Nat) {fs : List Value} {v : Value} {idx : Nat} (fs' : List Value) (hk : k < gN E) (he : f k = .inr (ci, fs)) (hset : fs.set j v = fs') (hj : j < N) (hfin : (T j).2.2.2 = false) (hn : narrow (ty j) v = v) (hfit : fits (ty j) v = true) (hlen : j < fs.length) (d : decode cc pc = .ok (.putfield idx, 3)) (hw : Cond.fieldLink K.2.1.cls idx (T j).1 (T j).2.1 (T j).2.2.1 ∈ TB) (kk : G E K cc Q (pc + 3) lv st (va_up f k (.inr (ci, fs')))) : G E K cc Q pc lv (v :: .ref (gAd E k) :: st) f := by
  subst hset
  exact G.putf hcl k j hk he hj hfin hn hfit hlen d hw kk
theorem G.putFS {E : gE} {K : gM} {cc : ByteArray} {Q : gU} {f : Nat → va_E} {pc : Nat} {lv : List (Nat × Value)} {st : List Value} {ci : Nat} {C : String} {T : u_T} {N : Nat} {ty : Nat → FieldType} (hcl : Cls ci C T N ty) (k j : Nat) {fs : List Value} {v : Value} {idx : Nat} (fs' : List Value) (hk : k < gN E) (he : f k = .inr (ci, fs)) (hset : fs.set j v = fs') (hj : j < N) (hfin : (T j).2.2.2 = true) (hi : K.2.1.name = "<init>") (hdecl : (T j).1 = K.2.1.cls) (hn : narrow (ty j) v = v) (hfit : fits (ty j) v = true) (hlen : j < fs.length) (d : decode cc pc = .ok (.putfield idx, 3)) (hw : Cond.fieldLink K.2.1.cls idx (T j).1 (T j).2.1 (T j).2.2.1 ∈ TB) (kk : G E K cc Q (pc + 3) lv st (va_up f k (.inr (ci, fs')))) : G E K cc Q pc lv (v :: .ref (gAd E k) :: st) f := by
  subst hset
  exact G.putF hcl k j hk he hj hfin hi hdecl hn hfit hlen d hw kk
end GLG
