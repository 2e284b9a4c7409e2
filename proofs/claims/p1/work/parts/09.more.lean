/-! ===== more rows: objects and arrays that are made, native copies, Math, switches ===== -/
section GLF
theorem wl_push {n : Nat} {ad : Nat → Nat} {f : Nat → va_E} (a : Nat) (e : va_E) : wl n ad f ++ [(a, e)] = wl (n + 1) (va_up ad n a) (va_up f n e) := by
  unfold wl
  rw [List.range_succ, List.map_append]
  congr 1
  · apply List.map_congr_left
    intro k hk
    have h : ¬ k = n := by
      have := List.mem_range.mp hk
      omega
    show _ = (if k = n then a else ad k, if k = n then e else f k)
    rw [if_neg h, if_neg h]
  · show _ = [(if n = n then a else ad n, if n = n then e else f n)]
    rw [if_pos rfl, if_pos rfl]
/-- one key more, at the address a -/
abbrev gX (E : gE) (a : Nat) : gE := (E.1, E.2.1, E.2.2.1, E.2.2.2.1 + 1, va_up E.2.2.2.2 E.2.2.2.1 a)
abbrev gV (Q : gU) (c s : Nat) : gU := (Q.1, Q.2.1 + c, Q.2.2.1 + s, Q.2.2.2)

theorem G.new {E : gE} {K : gM} {cc : ByteArray} {Q : gU} {f : Nat → va_E} {pc : Nat} {lv : List (Nat × Value)} {st : List Value} {ci : Nat} {C : String} {T : u_T} {N : Nat} {ty : Nat → FieldType} (hcl : Cls ci C T N ty) {idx : Nat} {fs : List Value} (hfs : ∀ j, j < N → defaultValue (ty j) = vp_V fs j) (hw : Cond.classLink K.2.1.cls idx C ∈ TB) (hinst : Cond.instantiable C N ∈ TB) (hini : Cond.initialized C ∈ TB) (hc : Q.2.1 + 1 ≤ Q.1.cells) (hs : Q.2.2.1 + N ≤ Q.1.slots) (d : decode cc pc = .ok (.new idx, 3)) (kk : ∀ a, G (gX E a) K cc (gV Q 1 N) (pc + 3) lv (.ref a :: st) (va_up f (gN E) (.inr (ci, fs)))) : G E K cc Q pc lv st f := by
  intro p e s m args below meth c C H locs ls hP hD hS hl
  obtain ⟨hx, hb, hml, -, hown, hts, hlocks, -, hsz, hA, hnm, hK, -⟩ := id C
  refine va_new (D := E.2.1) (cl := gCl) (tys := gT E.2.2.1) (Ts := TB) (ci := ci) (fs := fs) hx hb hts hcl.2.1 ty hcl.2.2.1 hown (hts _ hw) (hts _ hinst) (hts _ hini) hK hP hD hS (fun q hq => hA q (by rw [← hsz]; exact hq)) hcl.1 hfs hc hs d (fun a H1 hP1 hD1 hS1 => ?_)
  rw [wl_push] at hP1 hD1
  exact kk a p e s m args below meth c C H1 locs ls hP1 hD1 hS1 hl

theorem G.newB {E : gE} {K : gM} {cc : ByteArray} {Q : gU} {f : Nat → va_E} {pc : Nat} {lv : List (Nat × Value)} {st : List Value} {n : Int32} {N' : Nat} (hw : Cond.arrayClass .byte ∈ TB) (hn : ¬ n < 0) (hN : n.toNatClampNeg = N') (hbig : N' ≤ 60000000) (hc : Q.2.1 + 1 ≤ Q.1.cells) (hs : Q.2.2.1 + N' ≤ Q.1.slots) (d : decode cc pc = .ok (.newarray .byte, 2)) (kk : ∀ a, G (gX E a) K cc (gV Q 1 N') (pc + 2) lv (.ref a :: st) (va_up f (gN E) (oB (gDA E) N' (fun _ => 0)))) : G E K cc Q pc lv (.int n :: st) f := by
  intro p e s m args below meth c C H locs ls hP hD hS hl
  obtain ⟨hx, hb, hml, -, hown, hts, hlocks, -, hsz, hA, hnm, hK, -⟩ := id C
  refine va_newa (D := E.2.1) (cl := gCl) (tys := gT E.2.2.1) (atype := .byte) (ty := .byte) (a0 := (N', .inl (fun _ => 0))) hx hb (hts _ hw) rfl hK hP hD hS (fun q hq => hA q (by rw [← hsz]; exact hq)) (fun cA => rfl) hn hN (by show N' * _ ≤ 536870912; simp only [componentBytes]; omega) hc hs d (fun a cA H1 hK1 hP1 hD1 hS1 => ?_)
  have h1 : s.vm.findClass _ = some cA := (hK1.2 5 (cA, .byte) rfl).2
  have h2 : s.vm.findClass _ = some (E.2.2.1 0) := (hK.2 0 (E.2.2.1 0, .byte) rfl).2
  cases Option.some.inj (h1.symm.trans h2)
  rw [wl_push] at hP1 hD1
  exact kk a p e s m args below meth c C H1 locs ls hP1 hD1 hS1 hl

theorem G.newI {E : gE} {K : gM} {cc : ByteArray} {Q : gU} {f : Nat → va_E} {pc : Nat} {lv : List (Nat × Value)} {st : List Value} {n : Int32} {N' : Nat} (hw : Cond.arrayClass .int ∈ TB) (hn : ¬ n < 0) (hN : n.toNatClampNeg = N') (hbig : N' ≤ 60000000) (hc : Q.2.1 + 1 ≤ Q.1.cells) (hs : Q.2.2.1 + N' ≤ Q.1.slots) (d : decode cc pc = .ok (.newarray .int, 2)) (kk : ∀ a, G (gX E a) K cc (gV Q 1 N') (pc + 2) lv (.ref a :: st) (va_up f (gN E) (oI (gDA E) N' (fun _ => 0)))) : G E K cc Q pc lv (.int n :: st) f := by
  intro p e s m args below meth c C H locs ls hP hD hS hl
  obtain ⟨hx, hb, hml, -, hown, hts, hlocks, -, hsz, hA, hnm, hK, -⟩ := id C
  refine va_newa (D := E.2.1) (cl := gCl) (tys := gT E.2.2.1) (atype := .int) (ty := .int) (a0 := (N', .inl (fun _ => 0))) hx hb (hts _ hw) rfl hK hP hD hS (fun q hq => hA q (by rw [← hsz]; exact hq)) (fun cA => rfl) hn hN (by show N' * _ ≤ 536870912; simp only [componentBytes]; omega) hc hs d (fun a cA H1 hK1 hP1 hD1 hS1 => ?_)
  have h1 : s.vm.findClass _ = some cA := (hK1.2 5 (cA, .int) rfl).2
  have h2 : s.vm.findClass _ = some (E.2.2.1 1) := (hK.2 1 (E.2.2.1 1, .int) rfl).2
  cases Option.some.inj (h1.symm.trans h2)
  rw [wl_push] at hP1 hD1
  exact kk a p e s m args below meth c C H1 locs ls hP1 hD1 hS1 hl

theorem G.newZ {E : gE} {K : gM} {cc : ByteArray} {Q : gU} {f : Nat → va_E} {pc : Nat} {lv : List (Nat × Value)} {st : List Value} {n : Int32} {N' : Nat} (hw : Cond.arrayClass .boolean ∈ TB) (hn : ¬ n < 0) (hN : n.toNatClampNeg = N') (hbig : N' ≤ 60000000) (hc : Q.2.1 + 1 ≤ Q.1.cells) (hs : Q.2.2.1 + N' ≤ Q.1.slots) (d : decode cc pc = .ok (.newarray .boolean, 2)) (kk : ∀ a, G (gX E a) K cc (gV Q 1 N') (pc + 2) lv (.ref a :: st) (va_up f (gN E) (oZ (gDA E) N' (fun _ => 0)))) : G E K cc Q pc lv (.int n :: st) f := by
  intro p e s m args below meth c C H locs ls hP hD hS hl
  obtain ⟨hx, hb, hml, -, hown, hts, hlocks, -, hsz, hA, hnm, hK, -⟩ := id C
  refine va_newa (D := E.2.1) (cl := gCl) (tys := gT E.2.2.1) (atype := .boolean) (ty := .boolean) (a0 := (N', .inl (fun _ => 0))) hx hb (hts _ hw) rfl hK hP hD hS (fun q hq => hA q (by rw [← hsz]; exact hq)) (fun cA => rfl) hn hN (by show N' * _ ≤ 536870912; simp only [componentBytes]; omega) hc hs d (fun a cA H1 hK1 hP1 hD1 hS1 => ?_)
  have h1 : s.vm.findClass _ = some cA := (hK1.2 5 (cA, .boolean) rfl).2
  have h2 : s.vm.findClass _ = some (E.2.2.1 2) := (hK.2 2 (E.2.2.1 2, .boolean) rfl).2
  cases Option.some.inj (h1.symm.trans h2)
  rw [wl_push] at hP1 hD1
  exact kk a p e s m args below meth c C H1 locs ls hP1 hD1 hS1 hl

theorem G.newJ {E : gE} {K : gM} {cc : ByteArray} {Q : gU} {f : Nat → va_E} {pc : Nat} {lv : List (Nat × Value)} {st : List Value} {n : Int32} {N' : Nat} (hw : Cond.arrayClass .long ∈ TB) (hn : ¬ n < 0) (hN : n.toNatClampNeg = N') (hbig : N' ≤ 60000000) (hc : Q.2.1 + 1 ≤ Q.1.cells) (hs : Q.2.2.1 + N' ≤ Q.1.slots) (d : decode cc pc = .ok (.newarray .long, 2)) (kk : ∀ a, G (gX E a) K cc (gV Q 1 N') (pc + 2) lv (.ref a :: st) (va_up f (gN E) (oJ (gDA E) N' (fun _ => 0)))) : G E K cc Q pc lv (.int n :: st) f := by
  intro p e s m args below meth c C H locs ls hP hD hS hl
  obtain ⟨hx, hb, hml, -, hown, hts, hlocks, -, hsz, hA, hnm, hK, -⟩ := id C
  refine va_newa (D := E.2.1) (cl := gCl) (tys := gT E.2.2.1) (atype := .long) (ty := .long) (a0 := (N', .inr (.inl (fun _ => 0)))) hx hb (hts _ hw) rfl hK hP hD hS (fun q hq => hA q (by rw [← hsz]; exact hq)) (fun cA => rfl) hn hN (by show N' * _ ≤ 536870912; simp only [componentBytes]; omega) hc hs d (fun a cA H1 hK1 hP1 hD1 hS1 => ?_)
  have h1 : s.vm.findClass _ = some cA := (hK1.2 5 (cA, .long) rfl).2
  have h2 : s.vm.findClass _ = some (E.2.2.1 3) := (hK.2 3 (E.2.2.1 3, .long) rfl).2
  cases Option.some.inj (h1.symm.trans h2)
  rw [wl_push] at hP1 hD1
  exact kk a p e s m args below meth c C H1 locs ls hP1 hD1 hS1 hl

theorem G.putF {E : gE} {K : gM} {cc : ByteArray} {Q : gU} {f : Nat → va_E} {pc : Nat} {lv : List (Nat × Value)} {st : List Value} {ci : Nat} {C : String} {T : u_T} {N : Nat} {ty : Nat → FieldType} (hcl : Cls ci C T N ty) (k j : Nat) {fs : List Value} {v : Value} {idx : Nat} (hk : k < gN E) (he : f k = .inr (ci, fs)) (hj : j < N) (hfin : (T j).2.2.2 = true) (hi : K.2.1.name = "<init>") (hdecl : (T j).1 = K.2.1.cls) (hn : narrow (ty j) v = v) (hfit : fits (ty j) v = true) (hlen : j < fs.length) (d : decode cc pc = .ok (.putfield idx, 3)) (hw : Cond.fieldLink K.2.1.cls idx (T j).1 (T j).2.1 (T j).2.2.1 ∈ TB) (kk : G E K cc Q (pc + 3) lv st (va_up f k (.inr (ci, fs.set j v)))) : G E K cc Q pc lv (v :: .ref (gAd E k) :: st) f := by
  intro p e s m args below meth c C H locs ls hP hD hS hl
  obtain ⟨hx, hb, hml, -, hown, hts, hlocks, -, hsz, hA, hnm, hK, -⟩ := id C
  refine va_putF (D := E.2.1) (cl := gCl) (tys := gT E.2.2.1) (Ts := TB) hx hb hts hcl.2.1 ty hcl.2.2.1 hcl.2.2.2 hown hK hP hD hS k (wl_at hk he) hcl.1 j hj (hts _ hw) (fun _ h => h) hfin (hnm.trans hi) hdecl (hcl.2.2.1 j hj) hn hfit hlen d (fun H1 locs1 hP1 hD1 hS1 => ?_)
  rw [wl_set] at hP1 hD1
  exact kk p e s m args below meth c C H1 locs1 ls hP1 hD1 hS1 hl

theorem G.objInit {E : gE} {K : gM} {cc : ByteArray} {Q : gU} {f : Nat → va_E} {pc : Nat} {lv : List (Nat × Value)} {st : List Value} {a : Nat} {idx : Nat} (hw : Cond.methodLink K.2.1.cls idx Lib.objectInit ∈ TB) (hin : Cond.instanceMethod Lib.objectInit ∈ TB) (hcd : Cond.code Lib.objectInit ⟨#[0xb1]⟩ 1 none ∈ TB) (hf : 1 ≤ Q.1.frames) (hlo : (st.map fun v => v.category).sum + 12 ≤ Q.1.locals) (d : decode cc pc = .ok (.invokespecial idx, 3)) (kk : G E K cc Q (pc + 3) lv st f) : G E K cc Q pc lv (.ref a :: st) f := by
  intro p e s m args below meth c C H locs ls hP hD hS hl
  obtain ⟨hx, hb, hml, -, hown, hts, hlocks, -, hsz, hA, hnm, hK, -⟩ := id C
  exact W.objInit hx hb hown (hts _ hw) (hts _ hin) (hts _ hcd) rfl (by show ls.size = _; rw [hl.1, hml]) (a := a) (rest := st) rfl d hf (by show 2 * 0 + _ + 12 ≤ _; omega) (kk p e s m args below meth c C H locs ls hP hD hS hl)

theorem G.mmin {E : gE} {K : gM} {cc : ByteArray} {Q : gU} {f : Nat → va_E} {pc : Nat} {lv : List (Nat × Value)} {st : List Value} {x y : Int32} {idx : Nat} (hw : Cond.methodLink K.2.1.cls idx Lib.Math.min.name ∈ TB) (hsta : Cond.static Lib.Math.min.name ∈ TB) (hini : Cond.initialized "java/lang/Math" ∈ TB) (hcd : Cond.code Lib.Math.min.name Lib.Math.min.code 2 (some .int) ∈ TB) (hf : 1 ≤ Q.1.frames) (hlo : (st.map fun v => v.category).sum + 13 ≤ Q.1.locals) (hc : Q.2.1 ≤ Q.1.cells) (hs : Q.2.2.1 ≤ Q.1.slots) (d : decode cc pc = .ok (.invokestatic idx, 3)) (kk : G E K cc Q (pc + 3) lv (.int (if y < x then y else x) :: st) f) : G E K cc Q pc lv (.int y :: .int x :: st) f := by
  intro p e s m args below meth c C H locs ls hP hD hS hl
  obtain ⟨hx, hb, hml, -, hown, hts, hlocks, -, hsz, hA, hnm, hK, -⟩ := id C
  exact va_mmin hx hb (by rw [hl.1, hml]) hown (hts _ hw) (hts _ hsta) (hts _ hini) (hts _ hcd) hf hlo hc hs d (kk p e s m args below meth c C H locs ls hP hD hS hl)

theorem G.mmax {E : gE} {K : gM} {cc : ByteArray} {Q : gU} {f : Nat → va_E} {pc : Nat} {lv : List (Nat × Value)} {st : List Value} {x y : Int32} {idx : Nat} (hw : Cond.methodLink K.2.1.cls idx Lib.Math.max.name ∈ TB) (hsta : Cond.static Lib.Math.max.name ∈ TB) (hini : Cond.initialized "java/lang/Math" ∈ TB) (hcd : Cond.code Lib.Math.max.name Lib.Math.max.code 2 (some .int) ∈ TB) (hf : 1 ≤ Q.1.frames) (hlo : (st.map fun v => v.category).sum + 13 ≤ Q.1.locals) (hc : Q.2.1 ≤ Q.1.cells) (hs : Q.2.2.1 ≤ Q.1.slots) (d : decode cc pc = .ok (.invokestatic idx, 3)) (kk : G E K cc Q (pc + 3) lv (.int (if x < y then y else x) :: st) f) : G E K cc Q pc lv (.int y :: .int x :: st) f := by
  intro p e s m args below meth c C H locs ls hP hD hS hl
  obtain ⟨hx, hb, hml, -, hown, hts, hlocks, -, hsz, hA, hnm, hK, -⟩ := id C
  exact va_mmax hx hb (by rw [hl.1, hml]) hown (hts _ hw) (hts _ hsta) (hts _ hini) (hts _ hcd) hf hlo hc hs d (kk p e s m args below meth c C H locs ls hP hD hS hl)

theorem G.copyB {E : gE} {K : gM} {cc : ByteArray} {Q : gU} {f : Nat → va_E} {pc : Nat} {lv : List (Nat × Value)} {st : List Value} (k0 k1 : Nat) {n0 n1 : Nat} {g0 g1 : Nat → Int32} {sp dp n : Int32} {idx : Nat} (hk0 : k0 < gN E) (he0 : f k0 = oB (gDA E) n0 g0) (hk1 : k1 < gN E) (he1 : f k1 = oB (gDA E) n1 g1) (hw : Cond.methodLink K.2.1.cls idx arraycopyName ∈ TB) (hnat : Cond.native arraycopyName ∈ TB) (hsta : Cond.static arraycopyName ∈ TB) (hini : Cond.initialized "java/lang/System" ∈ TB) (h1 : ¬ sp < 0) (h2 : ¬ dp < 0) (h3 : ¬ n < 0) (h4 : sp.toNatClampNeg + n.toNatClampNeg ≤ n0) (h5 : dp.toNatClampNeg + n.toNatClampNeg ≤ n1) (hfit : ∀ i, i < n.toNatClampNeg → fits .byte (.int (g0 (sp.toNatClampNeg + i))) = true) (hf : 1 ≤ Q.1.frames) (hlo : (st.map fun v => v.category).sum + (nativeFrameWords "java/lang/System" "arraycopy" 5 + 11) ≤ Q.1.locals) (d : decode cc pc = .ok (.invokestatic idx, 3)) (kk : G E K cc Q (pc + 3) lv st (va_up f k1 (oB (gDA E) n1 (va_cpy g0 g1 sp.toNatClampNeg dp.toNatClampNeg n.toNatClampNeg)))) : G E K cc Q pc lv (.int n :: .int dp :: .ref (gAd E k1) :: .int sp :: .ref (gAd E k0) :: st) f := by
  intro p e s m args below meth c C H locs ls hP hD hS hl
  obtain ⟨hx, hb, hml, -, hown, hts, hlocks, -, hsz, hA, hnm, hK, -⟩ := id C
  refine va_copyi (D := E.2.1) (cl := gCl) (tys := gT E.2.2.1) hx hb (by rw [hl.1, hml]) hown (hts _ hw) (hts _ hnat) (hts _ hsta) (hts _ hini) hK hP hD hS k0 k1 0 0 (wl_at hk0 he0) (wl_at hk1 he1) rfl rfl rfl h1 h2 h3 h4 h5 hfit hf hlo d (fun H1 locs1 hP1 hD1 hS1 => ?_)
  rw [wl_set] at hP1 hD1
  exact kk p e s m args below meth c C H1 locs1 ls hP1 hD1 hS1 hl

end GLF
