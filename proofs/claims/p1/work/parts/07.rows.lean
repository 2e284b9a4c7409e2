/-! ===== the rows of a body: fields, arrays, branches, returns ===== -/
section GLD
abbrev gN (E : gE) : Nat := E.2.2.2.1
abbrev gAd (E : gE) : Nat → Nat := E.2.2.2.2
abbrev gDA (E : gE) : Nat → ClassId := E.2.2.1
def Cls (ci : Nat) (C : String) (T : u_T) (N : Nat) (ty : Nat → FieldType) : Prop := gCl[ci]? = some (C, T, N) ∧ (∀ w ∈ u_ws C T N, w ∈ TB) ∧ (∀ k, k < N → parseFieldDescriptor (T k).2.2.1 = some (ty k)) ∧ ∀ a, a < N → ∀ b, b < N → a ≠ b → (T a).2.1 ≠ (T b).2.1

theorem G.getf {E : gE} {K : gM} {cc : ByteArray} {Q : gU} {f : Nat → va_E} {pc : Nat} {lv : List (Nat × Value)} {st : List Value} {ci : Nat} {C : String} {T : u_T} {N : Nat} {ty : Nat → FieldType} (hcl : Cls ci C T N ty) (k j : Nat) {fs : List Value} {v : Value} {idx : Nat} (hk : k < gN E) (he : f k = .inr (ci, fs)) (hj : j < N) (hv : fs[j]? = some v) (d : decode cc pc = .ok (.getfield idx, 3)) (hw : Cond.fieldLink K.2.1.cls idx (T j).1 (T j).2.1 (T j).2.2.1 ∈ TB) (kk : G E K cc Q (pc + 3) lv (v :: st) f) : G E K cc Q pc lv (.ref (gAd E k) :: st) f := by
  intro p e s m args below meth c C H locs ls hP hD hS hl
  obtain ⟨hx, hb, -, -, hown, hts, -, -, -, -, -, hK, -⟩ := id C
  exact va_get (D := E.2.1) (cl := gCl) (tys := gT E.2.2.1) (Ts := TB) hx hb hts hcl.2.1 hown hK hP k (wl_at hk he) hcl.1 j hj (hts _ hw) (fun _ h => h) hv d (kk p e s m args below meth c C H locs ls hP hD hS hl)

theorem G.putf {E : gE} {K : gM} {cc : ByteArray} {Q : gU} {f : Nat → va_E} {pc : Nat} {lv : List (Nat × Value)} {st : List Value} {ci : Nat} {C : String} {T : u_T} {N : Nat} {ty : Nat → FieldType} (hcl : Cls ci C T N ty) (k j : Nat) {fs : List Value} {v : Value} {idx : Nat} (hk : k < gN E) (he : f k = .inr (ci, fs)) (hj : j < N) (hfin : (T j).2.2.2 = false) (hn : narrow (ty j) v = v) (hfit : fits (ty j) v = true) (hlen : j < fs.length) (d : decode cc pc = .ok (.putfield idx, 3)) (hw : Cond.fieldLink K.2.1.cls idx (T j).1 (T j).2.1 (T j).2.2.1 ∈ TB) (kk : G E K cc Q (pc + 3) lv st (va_up f k (.inr (ci, fs.set j v)))) : G E K cc Q pc lv (v :: .ref (gAd E k) :: st) f := by
  intro p e s m args below meth c C H locs ls hP hD hS hl
  obtain ⟨hx, hb, -, -, hown, hts, -, -, -, -, -, hK, -⟩ := id C
  refine va_put (D := E.2.1) (cl := gCl) (tys := gT E.2.2.1) (Ts := TB) hx hb hts hcl.2.1 ty hcl.2.2.1 hcl.2.2.2 hown hK hP hD hS k (wl_at hk he) hcl.1 j hj (hts _ hw) (fun _ h => h) hfin (hcl.2.2.1 j hj) hn hfit hlen d (fun H1 locs1 hP1 hD1 hS1 => ?_)
  rw [wl_set] at hP1 hD1
  exact kk p e s m args below meth c C H1 locs1 ls hP1 hD1 hS1 hl

theorem G.iald {E : gE} {K : gM} {cc : ByteArray} {Q : gU} {f : Nat → va_E} {pc : Nat} {lv : List (Nat × Value)} {st : List Value} (k : Nat) {n : Nat} {g : Nat → Int32} {i : Int32} (hk : k < gN E) (he : f k = oI (gDA E) n g) (hin : vp_in i n) (d : decode cc pc = .ok (.iaload, 1)) (kk : G E K cc Q (pc + 1) lv (.int (g i.toNatClampNeg) :: st) f) : G E K cc Q pc lv (.int i :: .ref (gAd E k) :: st) f := by
  intro p e s m args below meth c C H locs ls hP hD hS hl
  obtain ⟨hx, hb, -, -, hown, hts, -, -, -, -, -, hK, -⟩ := id C
  exact va_iald (D := E.2.1) (cl := gCl) (tys := gT E.2.2.1) hx hb hK hP k 1 (wl_at hk he) rfl hin d (kk p e s m args below meth c C H locs ls hP hD hS hl)

theorem G.bald {E : gE} {K : gM} {cc : ByteArray} {Q : gU} {f : Nat → va_E} {pc : Nat} {lv : List (Nat × Value)} {st : List Value} (k : Nat) {n : Nat} {g : Nat → Int32} {i : Int32} (hk : k < gN E) (he : f k = oB (gDA E) n g) (hin : vp_in i n) (d : decode cc pc = .ok (.baload, 1)) (kk : G E K cc Q (pc + 1) lv (.int (g i.toNatClampNeg) :: st) f) : G E K cc Q pc lv (.int i :: .ref (gAd E k) :: st) f := by
  intro p e s m args below meth c C H locs ls hP hD hS hl
  obtain ⟨hx, hb, -, -, hown, hts, -, -, -, -, -, hK, -⟩ := id C
  exact va_bald (D := E.2.1) (cl := gCl) (tys := gT E.2.2.1) hx hb hK hP k 0 (wl_at hk he) rfl hin d (kk p e s m args below meth c C H locs ls hP hD hS hl)

theorem G.zald {E : gE} {K : gM} {cc : ByteArray} {Q : gU} {f : Nat → va_E} {pc : Nat} {lv : List (Nat × Value)} {st : List Value} (k : Nat) {n : Nat} {g : Nat → Int32} {i : Int32} (hk : k < gN E) (he : f k = oZ (gDA E) n g) (hin : vp_in i n) (d : decode cc pc = .ok (.baload, 1)) (kk : G E K cc Q (pc + 1) lv (.int (g i.toNatClampNeg) :: st) f) : G E K cc Q pc lv (.int i :: .ref (gAd E k) :: st) f := by
  intro p e s m args below meth c C H locs ls hP hD hS hl
  obtain ⟨hx, hb, -, -, hown, hts, -, -, -, -, -, hK, -⟩ := id C
  exact va_zald (D := E.2.1) (cl := gCl) (tys := gT E.2.2.1) hx hb hK hP k 2 (wl_at hk he) rfl hin d (kk p e s m args below meth c C H locs ls hP hD hS hl)

theorem G.lald {E : gE} {K : gM} {cc : ByteArray} {Q : gU} {f : Nat → va_E} {pc : Nat} {lv : List (Nat × Value)} {st : List Value} (k : Nat) {n : Nat} {g : Nat → Int64} {i : Int32} (hk : k < gN E) (he : f k = oJ (gDA E) n g) (hin : vp_in i n) (d : decode cc pc = .ok (.laload, 1)) (kk : G E K cc Q (pc + 1) lv (.long (g i.toNatClampNeg) :: st) f) : G E K cc Q pc lv (.int i :: .ref (gAd E k) :: st) f := by
  intro p e s m args below meth c C H locs ls hP hD hS hl
  obtain ⟨hx, hb, -, -, hown, hts, -, -, -, -, -, hK, -⟩ := id C
  exact va_lald (D := E.2.1) (cl := gCl) (tys := gT E.2.2.1) hx hb hK hP k 3 (wl_at hk he) rfl hin d (kk p e s m args below meth c C H locs ls hP hD hS hl)

theorem G.aald {E : gE} {K : gM} {cc : ByteArray} {Q : gU} {f : Nat → va_E} {pc : Nat} {lv : List (Nat × Value)} {st : List Value} (k : Nat) {n : Nat} {g : Nat → Option Nat} {i : Int32} (hk : k < gN E) (he : f k = oR (gDA E) n g) (hin : vp_in i n) (d : decode cc pc = .ok (.aaload, 1)) (kk : G E K cc Q (pc + 1) lv (va_rf (g i.toNatClampNeg) :: st) f) : G E K cc Q pc lv (.int i :: .ref (gAd E k) :: st) f := by
  intro p e s m args below meth c C H locs ls hP hD hS hl
  obtain ⟨hx, hb, -, -, hown, hts, -, -, -, -, -, hK, -⟩ := id C
  have hlt : i.toNatClampNeg < n := Nat.not_le.mp fun q => hin (Or.inr q)
  exact W.aald (v := va_rf (g i.toNatClampNeg)) (ty := .array .byte) hx hb (hP k _ (wl_at hk he)) ((hK.2 4 _ rfl).1 n (fun j => va_rf (g j))) rfl (fun q => by cases q) (by show ¬ (i < 0 ∨ (arrV _ _ _).slots.size ≤ _); rw [arrV_size]; exact hin) (by show (arrV _ _ _).slots[_]? = _; rw [arrV_read _ _ hlt]) rfl rfl d (kk p e s m args below meth c C H locs ls hP hD hS hl)

theorem G.iast {E : gE} {K : gM} {cc : ByteArray} {Q : gU} {f : Nat → va_E} {pc : Nat} {lv : List (Nat × Value)} {st : List Value} (k : Nat) {n : Nat} {g : Nat → Int32} {i : Int32} {x : Int32} (hk : k < gN E) (he : f k = oI (gDA E) n g) (hin : vp_in i n) (d : decode cc pc = .ok (.iastore, 1)) (kk : G E K cc Q (pc + 1) lv st (va_up f k (oI (gDA E) n (upd g i.toNatClampNeg x)))) : G E K cc Q pc lv (.int x :: .int i :: .ref (gAd E k) :: st) f := by
  intro p e s m args below meth c C H locs ls hP hD hS hl
  obtain ⟨hx, hb, -, -, hown, hts, -, -, -, -, -, hK, -⟩ := id C
  refine va_iast (D := E.2.1) (cl := gCl) (tys := gT E.2.2.1) hx hb hK hP hD hS k 1 (wl_at hk he) rfl hin d (fun H1 locs1 hP1 hD1 hS1 => ?_)
  rw [wl_set] at hP1 hD1
  exact kk p e s m args below meth c C H1 locs1 ls hP1 hD1 hS1 hl

theorem G.bast {E : gE} {K : gM} {cc : ByteArray} {Q : gU} {f : Nat → va_E} {pc : Nat} {lv : List (Nat × Value)} {st : List Value} (k : Nat) {n : Nat} {g : Nat → Int32} {i : Int32} {x : Int32} (hk : k < gN E) (he : f k = oB (gDA E) n g) (hin : vp_in i n) (d : decode cc pc = .ok (.bastore, 1)) (kk : G E K cc Q (pc + 1) lv st (va_up f k (oB (gDA E) n (upd g i.toNatClampNeg (vp_nar .byte x))))) : G E K cc Q pc lv (.int x :: .int i :: .ref (gAd E k) :: st) f := by
  intro p e s m args below meth c C H locs ls hP hD hS hl
  obtain ⟨hx, hb, -, -, hown, hts, -, -, -, -, -, hK, -⟩ := id C
  refine va_bast (D := E.2.1) (cl := gCl) (tys := gT E.2.2.1) hx hb hK hP hD hS k 0 (wl_at hk he) rfl hin d (fun H1 locs1 hP1 hD1 hS1 => ?_)
  rw [wl_set] at hP1 hD1
  exact kk p e s m args below meth c C H1 locs1 ls hP1 hD1 hS1 hl

theorem G.zast {E : gE} {K : gM} {cc : ByteArray} {Q : gU} {f : Nat → va_E} {pc : Nat} {lv : List (Nat × Value)} {st : List Value} (k : Nat) {n : Nat} {g : Nat → Int32} {i : Int32} {x : Int32} (hk : k < gN E) (he : f k = oZ (gDA E) n g) (hin : vp_in i n) (d : decode cc pc = .ok (.bastore, 1)) (kk : G E K cc Q (pc + 1) lv st (va_up f k (oZ (gDA E) n (upd g i.toNatClampNeg (vp_nar .boolean x))))) : G E K cc Q pc lv (.int x :: .int i :: .ref (gAd E k) :: st) f := by
  intro p e s m args below meth c C H locs ls hP hD hS hl
  obtain ⟨hx, hb, -, -, hown, hts, -, -, -, -, -, hK, -⟩ := id C
  refine va_zast (D := E.2.1) (cl := gCl) (tys := gT E.2.2.1) hx hb hK hP hD hS k 2 (wl_at hk he) rfl hin d (fun H1 locs1 hP1 hD1 hS1 => ?_)
  rw [wl_set] at hP1 hD1
  exact kk p e s m args below meth c C H1 locs1 ls hP1 hD1 hS1 hl

theorem G.last {E : gE} {K : gM} {cc : ByteArray} {Q : gU} {f : Nat → va_E} {pc : Nat} {lv : List (Nat × Value)} {st : List Value} (k : Nat) {n : Nat} {g : Nat → Int64} {i : Int32} {x : Int64} (hk : k < gN E) (he : f k = oJ (gDA E) n g) (hin : vp_in i n) (d : decode cc pc = .ok (.lastore, 1)) (kk : G E K cc Q (pc + 1) lv st (va_up f k (oJ (gDA E) n (vp_updL g i.toNatClampNeg x)))) : G E K cc Q pc lv (.long x :: .int i :: .ref (gAd E k) :: st) f := by
  intro p e s m args below meth c C H locs ls hP hD hS hl
  obtain ⟨hx, hb, -, -, hown, hts, -, -, -, -, -, hK, -⟩ := id C
  refine va_last (D := E.2.1) (cl := gCl) (tys := gT E.2.2.1) hx hb hK hP hD hS k 3 (wl_at hk he) rfl hin d (fun H1 locs1 hP1 hD1 hS1 => ?_)
  rw [wl_set] at hP1 hD1
  exact kk p e s m args below meth c C H1 locs1 ls hP1 hD1 hS1 hl

theorem G.alen {E : gE} {K : gM} {cc : ByteArray} {Q : gU} {f : Nat → va_E} {pc : Nat} {lv : List (Nat × Value)} {st : List Value} (k t0 : Nat) {cA : ClassId} {x : vp_A} {ty : FieldType} {v : Int32} (hk : k < gN E) (he : f k = .inl (cA, x)) (ht : (gT (gDA E))[t0]? = some (cA, ty)) (hv : Int32.ofNat x.1 = v) (d : decode cc pc = .ok (.arraylength, 1)) (kk : G E K cc Q (pc + 1) lv (.int v :: st) f) : G E K cc Q pc lv (.ref (gAd E k) :: st) f := by
  intro p e s m args below meth c C H locs ls hP hD hS hl
  obtain ⟨hx, hb, -, -, hown, hts, -, -, -, -, -, hK, -⟩ := id C
  exact va_alen (D := E.2.1) (cl := gCl) (tys := gT E.2.2.1) hx hb hK hP k t0 (wl_at hk he) ht hv d (kk p e s m args below meth c C H locs ls hP hD hS hl)

theorem G.if_eq {E : gE} {K : gM} {cc : ByteArray} {Q : gU} {f : Nat → va_E} {pc : Nat} {lv : List (Nat × Value)} {st : List Value} {x : Int32} {off : Int} (tgt : Nat) (d : decode cc pc = .ok (.ifCond .eq off, 3)) (ht : (pc : Int) + off = (tgt : Int)) (kt : x = 0 → G E K cc Q tgt lv st f) (kf : ¬ x = 0 → G E K cc Q (pc + 3) lv st f) : G E K cc Q pc lv (.int x :: st) f := by
  intro p e s m args below meth c C H locs ls hP hD hS hl
  exact lv_if_eq C.1 C.2.1 d ht (fun h => kt h p e s m args below meth c C H locs ls hP hD hS hl) (fun h => kf h p e s m args below meth c C H locs ls hP hD hS hl)

theorem G.cmp_eq {E : gE} {K : gM} {cc : ByteArray} {Q : gU} {f : Nat → va_E} {pc : Nat} {lv : List (Nat × Value)} {st : List Value} {x y : Int32} {off : Int} (tgt : Nat) (d : decode cc pc = .ok (.if_icmp .eq off, 3)) (ht : (pc : Int) + off = (tgt : Int)) (kt : x = y → G E K cc Q tgt lv st f) (kf : ¬ x = y → G E K cc Q (pc + 3) lv st f) : G E K cc Q pc lv (.int y :: .int x :: st) f := by
  intro p e s m args below meth c C H locs ls hP hD hS hl
  exact lv_icmp_eq C.1 C.2.1 d ht (fun h => kt h p e s m args below meth c C H locs ls hP hD hS hl) (fun h => kf h p e s m args below meth c C H locs ls hP hD hS hl)

theorem G.if_ne {E : gE} {K : gM} {cc : ByteArray} {Q : gU} {f : Nat → va_E} {pc : Nat} {lv : List (Nat × Value)} {st : List Value} {x : Int32} {off : Int} (tgt : Nat) (d : decode cc pc = .ok (.ifCond .ne off, 3)) (ht : (pc : Int) + off = (tgt : Int)) (kt : ¬ x = 0 → G E K cc Q tgt lv st f) (kf : x = 0 → G E K cc Q (pc + 3) lv st f) : G E K cc Q pc lv (.int x :: st) f := by
  intro p e s m args below meth c C H locs ls hP hD hS hl
  exact lv_if_ne C.1 C.2.1 d ht (fun h => kt h p e s m args below meth c C H locs ls hP hD hS hl) (fun h => kf h p e s m args below meth c C H locs ls hP hD hS hl)

theorem G.cmp_ne {E : gE} {K : gM} {cc : ByteArray} {Q : gU} {f : Nat → va_E} {pc : Nat} {lv : List (Nat × Value)} {st : List Value} {x y : Int32} {off : Int} (tgt : Nat) (d : decode cc pc = .ok (.if_icmp .ne off, 3)) (ht : (pc : Int) + off = (tgt : Int)) (kt : ¬ x = y → G E K cc Q tgt lv st f) (kf : x = y → G E K cc Q (pc + 3) lv st f) : G E K cc Q pc lv (.int y :: .int x :: st) f := by
  intro p e s m args below meth c C H locs ls hP hD hS hl
  exact lv_icmp_ne C.1 C.2.1 d ht (fun h => kt h p e s m args below meth c C H locs ls hP hD hS hl) (fun h => kf h p e s m args below meth c C H locs ls hP hD hS hl)

theorem G.if_lt {E : gE} {K : gM} {cc : ByteArray} {Q : gU} {f : Nat → va_E} {pc : Nat} {lv : List (Nat × Value)} {st : List Value} {x : Int32} {off : Int} (tgt : Nat) (d : decode cc pc = .ok (.ifCond .lt off, 3)) (ht : (pc : Int) + off = (tgt : Int)) (kt : x < 0 → G E K cc Q tgt lv st f) (kf : ¬ x < 0 → G E K cc Q (pc + 3) lv st f) : G E K cc Q pc lv (.int x :: st) f := by
  intro p e s m args below meth c C H locs ls hP hD hS hl
  exact lv_if_lt C.1 C.2.1 d ht (fun h => kt h p e s m args below meth c C H locs ls hP hD hS hl) (fun h => kf h p e s m args below meth c C H locs ls hP hD hS hl)

theorem G.cmp_lt {E : gE} {K : gM} {cc : ByteArray} {Q : gU} {f : Nat → va_E} {pc : Nat} {lv : List (Nat × Value)} {st : List Value} {x y : Int32} {off : Int} (tgt : Nat) (d : decode cc pc = .ok (.if_icmp .lt off, 3)) (ht : (pc : Int) + off = (tgt : Int)) (kt : x < y → G E K cc Q tgt lv st f) (kf : ¬ x < y → G E K cc Q (pc + 3) lv st f) : G E K cc Q pc lv (.int y :: .int x :: st) f := by
  intro p e s m args below meth c C H locs ls hP hD hS hl
  exact lv_icmp_lt C.1 C.2.1 d ht (fun h => kt h p e s m args below meth c C H locs ls hP hD hS hl) (fun h => kf h p e s m args below meth c C H locs ls hP hD hS hl)

theorem G.if_ge {E : gE} {K : gM} {cc : ByteArray} {Q : gU} {f : Nat → va_E} {pc : Nat} {lv : List (Nat × Value)} {st : List Value} {x : Int32} {off : Int} (tgt : Nat) (d : decode cc pc = .ok (.ifCond .ge off, 3)) (ht : (pc : Int) + off = (tgt : Int)) (kt : 0 ≤ x → G E K cc Q tgt lv st f) (kf : ¬ 0 ≤ x → G E K cc Q (pc + 3) lv st f) : G E K cc Q pc lv (.int x :: st) f := by
  intro p e s m args below meth c C H locs ls hP hD hS hl
  exact lv_if_ge C.1 C.2.1 d ht (fun h => kt h p e s m args below meth c C H locs ls hP hD hS hl) (fun h => kf h p e s m args below meth c C H locs ls hP hD hS hl)

theorem G.cmp_ge {E : gE} {K : gM} {cc : ByteArray} {Q : gU} {f : Nat → va_E} {pc : Nat} {lv : List (Nat × Value)} {st : List Value} {x y : Int32} {off : Int} (tgt : Nat) (d : decode cc pc = .ok (.if_icmp .ge off, 3)) (ht : (pc : Int) + off = (tgt : Int)) (kt : y ≤ x → G E K cc Q tgt lv st f) (kf : ¬ y ≤ x → G E K cc Q (pc + 3) lv st f) : G E K cc Q pc lv (.int y :: .int x :: st) f := by
  intro p e s m args below meth c C H locs ls hP hD hS hl
  exact lv_icmp_ge C.1 C.2.1 d ht (fun h => kt h p e s m args below meth c C H locs ls hP hD hS hl) (fun h => kf h p e s m args below meth c C H locs ls hP hD hS hl)

theorem G.if_gt {E : gE} {K : gM} {cc : ByteArray} {Q : gU} {f : Nat → va_E} {pc : Nat} {lv : List (Nat × Value)} {st : List Value} {x : Int32} {off : Int} (tgt : Nat) (d : decode cc pc = .ok (.ifCond .gt off, 3)) (ht : (pc : Int) + off = (tgt : Int)) (kt : 0 < x → G E K cc Q tgt lv st f) (kf : ¬ 0 < x → G E K cc Q (pc + 3) lv st f) : G E K cc Q pc lv (.int x :: st) f := by
  intro p e s m args below meth c C H locs ls hP hD hS hl
  exact lv_if_gt C.1 C.2.1 d ht (fun h => kt h p e s m args below meth c C H locs ls hP hD hS hl) (fun h => kf h p e s m args below meth c C H locs ls hP hD hS hl)

theorem G.cmp_gt {E : gE} {K : gM} {cc : ByteArray} {Q : gU} {f : Nat → va_E} {pc : Nat} {lv : List (Nat × Value)} {st : List Value} {x y : Int32} {off : Int} (tgt : Nat) (d : decode cc pc = .ok (.if_icmp .gt off, 3)) (ht : (pc : Int) + off = (tgt : Int)) (kt : y < x → G E K cc Q tgt lv st f) (kf : ¬ y < x → G E K cc Q (pc + 3) lv st f) : G E K cc Q pc lv (.int y :: .int x :: st) f := by
  intro p e s m args below meth c C H locs ls hP hD hS hl
  exact lv_icmp_gt C.1 C.2.1 d ht (fun h => kt h p e s m args below meth c C H locs ls hP hD hS hl) (fun h => kf h p e s m args below meth c C H locs ls hP hD hS hl)

theorem G.if_le {E : gE} {K : gM} {cc : ByteArray} {Q : gU} {f : Nat → va_E} {pc : Nat} {lv : List (Nat × Value)} {st : List Value} {x : Int32} {off : Int} (tgt : Nat) (d : decode cc pc = .ok (.ifCond .le off, 3)) (ht : (pc : Int) + off = (tgt : Int)) (kt : x ≤ 0 → G E K cc Q tgt lv st f) (kf : ¬ x ≤ 0 → G E K cc Q (pc + 3) lv st f) : G E K cc Q pc lv (.int x :: st) f := by
  intro p e s m args below meth c C H locs ls hP hD hS hl
  exact lv_if_le C.1 C.2.1 d ht (fun h => kt h p e s m args below meth c C H locs ls hP hD hS hl) (fun h => kf h p e s m args below meth c C H locs ls hP hD hS hl)

theorem G.cmp_le {E : gE} {K : gM} {cc : ByteArray} {Q : gU} {f : Nat → va_E} {pc : Nat} {lv : List (Nat × Value)} {st : List Value} {x y : Int32} {off : Int} (tgt : Nat) (d : decode cc pc = .ok (.if_icmp .le off, 3)) (ht : (pc : Int) + off = (tgt : Int)) (kt : x ≤ y → G E K cc Q tgt lv st f) (kf : ¬ x ≤ y → G E K cc Q (pc + 3) lv st f) : G E K cc Q pc lv (.int y :: .int x :: st) f := by
  intro p e s m args below meth c C H locs ls hP hD hS hl
  exact lv_icmp_le C.1 C.2.1 d ht (fun h => kt h p e s m args below meth c C H locs ls hP hD hS hl) (fun h => kf h p e s m args below meth c C H locs ls hP hD hS hl)

theorem G.idiv {E : gE} {K : gM} {cc : ByteArray} {Q : gU} {f : Nat → va_E} {pc : Nat} {lv : List (Nat × Value)} {st : List Value} {x y : Int32} (hy : ¬ y = 0) (d : decode cc pc = .ok (.idiv, 1)) (kk : G E K cc Q (pc + 1) lv (.int (x / y) :: st) f) : G E K cc Q pc lv (.int y :: .int x :: st) f := by
  intro p e s m args below meth c C H locs ls hP hD hS hl
  exact lv_idiv C.1 C.2.1 d hy (kk p e s m args below meth c C H locs ls hP hD hS hl)

theorem G.irem {E : gE} {K : gM} {cc : ByteArray} {Q : gU} {f : Nat → va_E} {pc : Nat} {lv : List (Nat × Value)} {st : List Value} {x y : Int32} (hy : ¬ y = 0) (d : decode cc pc = .ok (.irem, 1)) (kk : G E K cc Q (pc + 1) lv (.int (x - x / y * y) :: st) f) : G E K cc Q pc lv (.int y :: .int x :: st) f := by
  intro p e s m args below meth c C H locs ls hP hD hS hl
  exact lv_irem C.1 C.2.1 d hy (kk p e s m args below meth c C H locs ls hP hD hS hl)

theorem G.lrem {E : gE} {K : gM} {cc : ByteArray} {Q : gU} {f : Nat → va_E} {pc : Nat} {lv : List (Nat × Value)} {st : List Value} {x y : Int64} (hy : ¬ y = 0) (d : decode cc pc = .ok (.lrem, 1)) (kk : G E K cc Q (pc + 1) lv (.long (x - x / y * y) :: st) f) : G E K cc Q pc lv (.long y :: .long x :: st) f := by
  intro p e s m args below meth c C H locs ls hP hD hS hl
  exact lv_lrem C.1 C.2.1 d hy (kk p e s m args below meth c C H locs ls hP hD hS hl)

theorem G.ldc {E : gE} {K : gM} {cc : ByteArray} {Q : gU} {f : Nat → va_E} {pc : Nat} {lv : List (Nat × Value)} {st : List Value} {idx : Nat} (v : Int32) (d : decode cc pc = .ok (.ldc idx, 2)) (hw : Cond.constant K.2.1.cls idx v ∈ TB) (kk : G E K cc Q (pc + 2) lv (.int v :: st) f) : G E K cc Q pc lv st f := by
  intro p e s m args below meth c C H locs ls hP hD hS hl
  obtain ⟨hx, hb, -, -, hown, hts, -, -, -, -, -, hK, -⟩ := id C
  exact lv_ldc hx hb hown (hts _ hw) d (kk p e s m args below meth c C H locs ls hP hD hS hl)

theorem G.ldcw {E : gE} {K : gM} {cc : ByteArray} {Q : gU} {f : Nat → va_E} {pc : Nat} {lv : List (Nat × Value)} {st : List Value} {idx : Nat} (v : Int32) (d : decode cc pc = .ok (.ldc_w idx, 3)) (hw : Cond.constant K.2.1.cls idx v ∈ TB) (kk : G E K cc Q (pc + 3) lv (.int v :: st) f) : G E K cc Q pc lv st f := by
  intro p e s m args below meth c C H locs ls hP hD hS hl
  obtain ⟨hx, hb, -, -, hown, hts, -, -, -, -, -, hK, -⟩ := id C
  exact lv_ldcw hx hb hown (hts _ hw) d (kk p e s m args below meth c C H locs ls hP hD hS hl)

theorem G.ldc2 {E : gE} {K : gM} {cc : ByteArray} {Q : gU} {f : Nat → va_E} {pc : Nat} {lv : List (Nat × Value)} {st : List Value} {idx : Nat} (v : Int64) (d : decode cc pc = .ok (.ldc2_w idx, 3)) (hw : Cond.constantLong K.2.1.cls idx v ∈ TB) (kk : G E K cc Q (pc + 3) lv (.long v :: st) f) : G E K cc Q pc lv st f := by
  intro p e s m args below meth c C H locs ls hP hD hS hl
  obtain ⟨hx, hb, -, -, hown, hts, -, -, -, -, -, hK, -⟩ := id C
  exact lv_ldc2 hx hb hown (hts _ hw) d (kk p e s m args below meth c C H locs ls hP hD hS hl)

theorem gZ.of {E : gE} {K : gM} {Q : gQ} {p : Program} {e : Env} {s : State} {m : MethodId} {args : Array Value} {below : List Frame} {meth : Method} {c : Code} {H : Heap} {locs : List Loc} {R : Room} {g : JFrame}
    (k : W p E.1 e R s m args below meth c H locs 0 0 (MQ below (gQn E K.2.2.2.2.2 Q) args s 0 0 K.2.2.2.2.2) g) : W p E.1 e R s m args below meth c H locs 0 0 (gZ E K Q below args s) g := by
  intro T hT X
  obtain ⟨t, a1, o, b1, b2, b3, b4⟩ := k T hT X
  exact ⟨t, a1, o, b1, b2, Or.inl ⟨b3, b4⟩⟩

theorem G.iret {E : gE} {K : gM} {cc : ByteArray} {Q : gQ} {f : Nat → va_E} {pc : Nat} {lv : List (Nat × Value)} {v : Int32} {ty : FieldType} (hr : K.2.2.2.1 = some ty) (hn : narrow ty (.int v) = .int v) (hq : Q.1 (some (.int v)) f) (d : decode cc pc = .ok (.ireturn, 1)) : G E K cc (gO E K Q) pc lv [.int v] f := by
  intro p e s m args below meth c C H locs ls hP hD hS hl
  obtain ⟨hx, hb, -, hrt, -, -, hlocks, -⟩ := id C
  exact gZ.of (W.zret (free := K.2.2.2.2.2) hx hb (hrt.trans hr) hn (fun t ht _ => ⟨_, f, rfl, hq, by rw [ht]; exact hP, hS.F ht⟩) hS.2.2 d hlocks)

theorem G.lret {E : gE} {K : gM} {cc : ByteArray} {Q : gQ} {f : Nat → va_E} {pc : Nat} {lv : List (Nat × Value)} {v : Int64} (hr : K.2.2.2.1 = some .long) (hq : Q.1 (some (.long v)) f) (d : decode cc pc = .ok (.lreturn, 1)) : G E K cc (gO E K Q) pc lv [.long v] f := by
  intro p e s m args below meth c C H locs ls hP hD hS hl
  obtain ⟨hx, hb, -, hrt, -, -, hlocks, -⟩ := id C
  exact gZ.of (W.lret (free := K.2.2.2.2.2) hx hb (hrt.trans hr) (fun t ht _ => ⟨_, f, rfl, hq, by rw [ht]; exact hP, hS.F ht⟩) hS.2.2 d hlocks)

theorem G.aret {E : gE} {K : gM} {cc : ByteArray} {Q : gQ} {f : Nat → va_E} {pc : Nat} {lv : List (Nat × Value)} {a : Nat} {t : FieldType} (hr : K.2.2.2.1 = some (.array t)) (hq : Q.1 (some (.ref a)) f) (d : decode cc pc = .ok (.areturn, 1)) : G E K cc (gO E K Q) pc lv [.ref a] f := by
  intro p e s m args below meth c C H locs ls hP hD hS hl
  obtain ⟨hx, hb, -, hrt, -, -, hlocks, -⟩ := id C
  exact gZ.of (W.aret (free := K.2.2.2.2.2) hx hb (hrt.trans hr) (Or.inr ⟨t, rfl⟩) (Or.inr ⟨a, rfl⟩) (fun t ht _ => ⟨_, f, rfl, hq, by rw [ht]; exact hP, hS.F ht⟩) hS.2.2 d hlocks)

theorem G.vret {E : gE} {K : gM} {cc : ByteArray} {Q : gQ} {f : Nat → va_E} {pc : Nat} {lv : List (Nat × Value)} (hr : K.2.2.2.1 = none) (hq : Q.1 none f) (d : decode cc pc = .ok (.return_, 1)) : G E K cc (gO E K Q) pc lv [] f := by
  intro p e s m args below meth c C H locs ls hP hD hS hl
  obtain ⟨hx, hb, -, hrt, -, -, hlocks, -⟩ := id C
  exact gZ.of (W.vret (free := K.2.2.2.2.2) hx hb (hrt.trans hr) (fun t ht _ => ⟨_, f, rfl, hq, by rw [ht]; exact hP, hS.F ht⟩) hS.2.2 d hlocks)

end GLD
