/-! ===== power, crash, count, and what is refused where it is mounted or the power is off ===== -/
section PXV
variable {E : gE} {f g : Nat → va_E} {N B gr u : Nat} {C C2 : CfT} {A : MS} {D D2 : CfT} {R R2 R9 : RfT} {Inv : (Nat → va_E) → Prop} {o : Nat → Int64} {fd : Nat}
set_option maxRecDepth 100000 in
set_option maxHeartbeats 4000000 in
theorem u_X11_format (E : gE) (f : Nat → va_E) (tp : Nat → Int32) (fd : Nat) (mo : Int32) (hE : 350 ≤ gN E) (hm : MnV E f tp fd mo) (hfd : fd ≤ 1024) (N : Nat) (d : DkT) (on le wr ss : Int32) (hE1 : 350 + N ≤ gN E) (hN : N ≤ 1024) (hdv : DkV E f N d on le wr ss) (hdo : dOk N d) (hun : ¬ (mo = 0 ∧ ¬ on = 0)) : Ct E 7 yX11_format cX11_format 3 (some .int) [.ref (gAd E (0))] f (fun _ _ => False, fun X g => X = "java/lang/IllegalStateException" ∧ MnV E g tp fd mo ∧ Fr MnK f g) := by
  obtain ⟨m0, m1⟩ := id hm
  refine Ct.of (by decide) (Nat.le_of_ble_eq_true rfl) (fun sz => ?_)
  refine G.eql [(0, .ref (gAd E (0)))] rfl ?_
  refine G.go tv_X11_format 1 1 [(0, .ref (gAd E (0)))] [.ref (gAd E (0))] rfl ?_
  refine G.callV (0) [] [] (c_X11_needUnmounted E f tp fd mo hE hm (by omega) N d on le wr ss hE1 hN hdv hdo) cls_X11 (by omega) (m0) cw_X11_156 w_644 w_1 (Nat.le_of_ble_eq_true rfl) rfl (Nat.le_of_ble_eq_true rfl) (tbd tv_X11_format rfl) (fun v1 f1 q1 => ?_) (fun X g q => ⟨q.1, by rw [← q.2.1]; exact ⟨hm, Fr.rf⟩⟩)
  obtain ⟨-, -, q1, q2⟩ := q1
  exact absurd ⟨q1, q2⟩ hun
set_option maxRecDepth 100000 in
set_option maxHeartbeats 4000000 in
theorem u_X11_mount (E : gE) (f : Nat → va_E) (tp : Nat → Int32) (fd : Nat) (mo : Int32) (hE : 350 ≤ gN E) (hm : MnV E f tp fd mo) (hfd : fd ≤ 1024) (N : Nat) (d : DkT) (on le wr ss : Int32) (hE1 : 350 + N ≤ gN E) (hN : N ≤ 1024) (hdv : DkV E f N d on le wr ss) (hdo : dOk N d) (hun : ¬ (mo = 0 ∧ ¬ on = 0)) : Ct E 7 yX11_mount cX11_mount 2 (some .int) [.ref (gAd E (0))] f (fun _ _ => False, fun X g => X = "java/lang/IllegalStateException" ∧ MnV E g tp fd mo ∧ Fr MnK f g) := by
  obtain ⟨m0, m1⟩ := id hm
  refine Ct.of (by decide) (Nat.le_of_ble_eq_true rfl) (fun sz => ?_)
  refine G.eql [(0, .ref (gAd E (0)))] rfl ?_
  refine G.go tv_X11_mount 1 1 [(0, .ref (gAd E (0)))] [.ref (gAd E (0))] rfl ?_
  refine G.callV (0) [] [] (c_X11_needUnmounted E f tp fd mo hE hm (by omega) N d on le wr ss hE1 hN hdv hdo) cls_X11 (by omega) (m0) cw_X11_156 w_644 w_1 (Nat.le_of_ble_eq_true rfl) rfl (Nat.le_of_ble_eq_true rfl) (tbd tv_X11_mount rfl) (fun v1 f1 q1 => ?_) (fun X g q => ⟨q.1, by rw [← q.2.1]; exact ⟨hm, Fr.rf⟩⟩)
  obtain ⟨-, -, q1, q2⟩ := q1
  exact absurd ⟨q1, q2⟩ hun
theorem cDb_2 {on le : Int32} (hn : dbN C) : cDb C on (dkOf C, bfOf C, le, cS C 210, cS C 211) = sS (sS C 208 on) 209 le := by
  obtain ⟨n1, n2, n3, n4⟩ := hn
  refine Prod.ext (funext fun j => ?_) (Prod.ext (funext fun k => ?_) (funext fun m => ?_))
  · show (if j = 206 then nI (cS C 206).toNatClampNeg else if j = 207 then nI (cS C 207).toNatClampNeg else if j = 208 then on else if j = 209 then le else if j = 210 then cS C 210 else if j = 211 then cS C 211 else if j = 805 then nI (cS C 805).toNatClampNeg else if j = 806 then nI (cS C 806).toNatClampNeg else if j = 807 then cS C 807 else C.1 j) = upd (upd C.1 208 on) 209 le j
    rw [← nI_cl n1, ← nI_cl n2, ← nI_cl n3, ← nI_cl n4]
    by_cases c9 : j = 209
    · subst c9
      rw [pk_us]
      rfl
    · rw [pk_un c9]
      by_cases c8 : j = 208
      · subst c8
        rw [pk_us]
        rfl
      · rw [pk_un c8]
        repeat' split
        all_goals first
          | rfl
          | (subst_vars; rfl)
          | (exfalso; omega)
  · show (if k = 3 then cA C 3 else if k = 6 then cA C 6 else if k = 7 then cA C 7 else if k = 10 then cA C 10 else if k = 11 then cA C 11 else if k = 12 then cA C 12 else C.2.1 k) = C.2.1 k
    repeat' split
    all_goals first
      | rfl
      | (subst_vars; rfl)
  · show (if m = 0 then cR C 0 else if m = 1 then cR C 1 else if m = 3 then cR C 3 else C.2.2 m) = C.2.2 m
    repeat' split
    all_goals first
      | rfl
      | (subst_vars; rfl)
theorem dk_bf {k : Nat} (h : BfK N B k) : ¬ DkK N k := fun q => by
  unfold BfK at h
  unfold DkK at q
  omega
theorem dk_rf {k : Nat} (h : RfK k) : ¬ DkK N k := fun q => by
  unfold RfK at h
  unfold DkK at q
  omega
theorem dk_93 : ¬ DkK N 93 := fun q => by
  unfold DkK at q
  omega
theorem cf_dk {on le : Int32} (h : CfV E f N B gr C) (hn : dbN C) (hd : DkV E g N (dkOf C) on le (cS C 210) (cS C 211)) (hf : Fr (DkK N) f g) : CfV E g N B gr (sS (sS C 208 on) 209 le) := by
  rw [← cDb_2 hn]
  have q := (h.db hn).2
  exact h.ofDb (on := on) (s := (dkOf C, bfOf C, le, cS C 210, cS C 211)) ⟨hd, q.of (fun k hk => hf k (dk_bf hk))⟩ (fun k hk => hf k (fun z => hk (Or.inl z)))
theorem sS_id {j : Nat} {v : Int32} (h : cS C j = v) : sS C j v = C := by
  show (upd C.1 j v, C.2) = C
  rw [upd_id h]
section
variable {h1 h2 : Nat} {y ym : MethodName} {cc ccm : ByteArray} {nL nLm : Nat} {as : List Value} {xs : List String} {fd2 : Nat}
theorem isz_I {rf : Option (Int32 × RfT)} {r0 : Int32} (w1 : CfV E f N B gr C) (w4 : RW E f R) (w5 : f 93 = oJ (gDA E) 1 o)
    (kc : Ct E h1 y cc nL (some .int) (.ref (gAd E 0) :: as) f (fun _ _ => False, fun X g => X = xI ∧ MnV E g (cA C 1) fd2 (cS C 2) ∧ Fr MnK f g))
    (kr : ∀ g, RW E g R → ∀ r R9, rf = some (r, R9) → Ct E h2 ym ccm nLm (some .int) (.ref (gAd E 56) :: as) g (fun v g' => v = some (.int r) ∧ RW E g' R9 ∧ Fr RfK g g', fun _ _ => False))
    (h1b : h1 ≤ 110) (h2b : h2 ≤ 110) (e : rf = some (r0, R9)) (e0 : rS R9 0 = 1) (cf : ∀ g, MnV E g (cA C 1) fd2 (cS C 2) → Fr MnK f g → CfV E g N B gr C2) (dq : Dq D2 C2) (p9 : Pz N B gr u C2 A D2 R9) (hx : xs[0]? = some xI) (iZ : ∀ g, Wz E N B gr u g → Inv g) : CsI E f y cc nL ym ccm nLm as xs Inv := by
  refine ⟨h1, _, kc, h1b, ⟨_, w1.1⟩, fun v g q => q.elim, fun X g q => ⟨0, by rw [q.1]; exact hx, ?_⟩⟩
  obtain ⟨-, q2, q3⟩ := q
  have w' : RW E g R := w4.cg (fun k hk => q3 k (mn_rf hk))
  refine ⟨h2, _, kr g w' _ _ e, h2b, w'.o, fun _ _ q => q, fun v2 w2 q => ?_⟩
  obtain ⟨p1, p2, p3⟩ := q
  obtain ⟨R2, p4, p5⟩ := p2.rf
  exact ⟨r0, R2, p1, p4, p5.trans e0, fun z => absurd z (by decide), iZ _ ⟨C2, A, D2, R9, o, (cf g q2 q3).of (fun k hk => p3 k (rf_cf hk)), dq, p2, (p3 93 rf_93).trans ((q3 93 mn_93).trans w5), p9⟩⟩
end
/-- mounted, or the power off -/
def Bz (C : CfT) (R : RfT) : Prop := ¬ (cS C 2 = 0 ∧ ¬ cS C 208 = 0) ∧ ¬ (rS R 21 = 0 ∧ ¬ rS R 11 = 0)
theorem z_formatI (hz : CfZ E N B gr) (hE : 94 ≤ gN E) (w1 : CfV E f N B gr C) (w2 : Dq D C) (w4 : RW E f R) (w5 : f 93 = oJ (gDA E) 1 o) (pz : Pz N B gr u C A D R) (bz : Bz C R) (iZ : ∀ g, Wz E N B gr u g → Inv g) : CsI E f yX11_format cX11_format 3 yX12_format cX12_format 2 [] [xI, xU] Inv := by
  obtain ⟨z1, z2, z3, z4, z5, z6, z7⟩ := id hz
  obtain ⟨tp, tl, -, t4, t5, t6, -⟩ := pz.of
  have c2 : cS C 1 = nI tl := w2.s1.trans t4
  obtain ⟨on, hw, d0, d1, d2, d3⟩ := pz.dv w1
  have ee : e_format R = some (0, setS R 0 1) := by
    rw [e_format]
    by_cases c : rS R 21 = 0
    · rw [if_pos c, if_pos (Classical.byContradiction (fun z => bz.2 ⟨c, z⟩))]
      rfl
    · rw [if_neg c]
      rfl
  exact isz_I w1 w4 w5 (u_X11_format E f (cA C 1) tl (cS C 2) (by omega) (w1.mn c2) t6 N (dkOf C) on _ _ _ (by omega) z2 d2 d3 (by rw [← d1.2.2]; exact bz.1)) (fun g w r R9 e => k_X12_format E g hE R w r R9 e) (by decide) (by decide) ee rfl (fun g hm hf => w1.mnS c2 hm hf) w2 (pz.fr (Fn.s (by decide))) rfl iZ
theorem z_mountI (hz : CfZ E N B gr) (hE : 94 ≤ gN E) (w1 : CfV E f N B gr C) (w2 : Dq D C) (w4 : RW E f R) (w5 : f 93 = oJ (gDA E) 1 o) (pz : Pz N B gr u C A D R) (bz : Bz C R) (iZ : ∀ g, Wz E N B gr u g → Inv g) : CsI E f yX11_mount cX11_mount 2 yX12_mount cX12_mount 6 [] [xI, xU, xA] Inv := by
  obtain ⟨z1, z2, z3, z4, z5, z6, z7⟩ := id hz
  obtain ⟨tp, tl, -, t4, t5, t6, -⟩ := pz.of
  have c2 : cS C 1 = nI tl := w2.s1.trans t4
  obtain ⟨on, hw, d0, d1, d2, d3⟩ := pz.dv w1
  have ee : e_mount R = some (0, setS R 0 1) := by
    rw [e_mount]
    by_cases c : rS R 21 = 0
    · rw [if_pos c, if_pos (Classical.byContradiction (fun z => bz.2 ⟨c, z⟩))]
      rfl
    · rw [if_neg c]
      rfl
  exact isz_I w1 w4 w5 (u_X11_mount E f (cA C 1) tl (cS C 2) (by omega) (w1.mn c2) t6 N (dkOf C) on _ _ _ (by omega) z2 d2 d3 (by rw [← d1.2.2]; exact bz.1)) (fun g w r R9 e => k_X12_mount E g hE R w r R9 e) (by decide) (by decide) ee rfl (fun g hm hf => w1.mnS c2 hm hf) w2 (pz.fr (Fn.s (by decide))) rfl iZ
theorem z_restartI {a : Int64} (hz : CfZ E N B gr) (hE : 94 ≤ gN E) (w1 : CfV E f N B gr C) (w2 : Dq D C) (w4 : RW E f R) (w5 : f 93 = oJ (gDA E) 1 o) (pz : Pz N B gr u C A D R) (h8 : ¬ cS C 208 = 0) (h11 : rS R 11 = 1) (iZ : ∀ g, Wz E N B gr u g → Inv g) : CsI E f yX11_restart cX11_restart 3 yX12_restart cX12_restart 12 [.long a] [xI] Inv := by
  obtain ⟨z1, z2, z3, z4, z5, z6, z7⟩ := id hz
  obtain ⟨tp, tl, -, t4, t5, t6, -⟩ := pz.of
  have c2 : cS C 1 = nI tl := w2.s1.trans t4
  obtain ⟨on, hw, d0, d1, d2, d3⟩ := pz.dv w1
  have ee : e_restart R a = some (0, setS R 0 1) := by
    rw [e_restart, h11]
    rfl
  refine isz_I (fd2 := tl) w1 w4 w5 ((u_X11_restart E f (cA C 1) tl (cS C 2) (by omega) (w1.mn c2) t6 N (dkOf C) on _ _ _ (by omega) z2 d2 d3 (by rw [← d1.2.2]; exact h8) a).mono (fun _ _ q => q) (fun X g q => ⟨q.1, by rw [← q.2]; exact ⟨w1.mn c2, Fr.rf⟩⟩)) (fun g w r R9 e => k_X12_restart E g hE R w a r R9 e) (by decide) (by decide) ee rfl (fun g hm hf => w1.mnS c2 hm hf) w2 (pz.fr (Fn.s (by decide))) rfl iZ
end PXV
