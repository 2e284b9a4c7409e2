set_option maxRecDepth 100000 in
set_option maxHeartbeats 4000000 in
/-- a value comes into the buffer -/
theorem c_X0_placeG (E : gE) (f : Nat → va_E) (N B : Nat) (b : BfT) (hE : 350 + 2 * N + B ≤ gN E) (hN : N ≤ 1024) (hb : BfV E f N B b) (ho : bOk N B b) (d : DkT) (on le wr ss : Int32) (hdv : DkV E f N d on le wr ss) (hdo : dOk N d) (t kv : Nat) (x : Nat → Int32) (ht : t < N) (hkv : kv < gN E) (hx : f kv = oB (gDA E) 128 x) (hxb : Byt x) (hkb : ¬ BfK N B kv) (hkw : ∀ (g : Nat → va_E) (t0 : Nat) (y : Nat → Int32) (le9 wr9 : Int32), DkV E g N (dWrite d t0 y) on le9 wr9 ss → Fr (DkK N) f g → t0 < N → g kv = oB (gDA E) 128 x) : Ct E 8 yX0_place cX0_place 4 none [.ref (gAd E (8)), .int (nI t), .ref (gAd E (kv))] f (fun v g => v = none ∧ ((b.1 t = -1 ∧ 0 < b.2.2.1 (bSlot B b)) → ¬ le = 0) ∧ DkV E g N (plD B b d t) on (plL B b t le) (plW B b t wr) ss ∧ BfV E g N B (bPlace B b t x) ∧ Fr (DBK N B) f g, fun X g => X = "java/lang/UnsupportedOperationException" ∧ le = 0 ∧ (b.1 t = -1 ∧ 0 < b.2.2.1 (bSlot B b)) ∧ DkV E g N d 0 (-1) wr ss ∧ BfV E g N B b ∧ Fr (DBK N B) f g) := by
  obtain ⟨so, bo, st, ro, sp, hd, pu⟩ := b
  obtain ⟨b8, b9, b10, b11, b12, br⟩ := id hb
  obtain ⟨o1, o2, o3, o4, o5, o6, o7, o8⟩ := id ho
  have hdv2 : f 2 = .inr (2, [.int (nI N), .ref (gAd E 3), .ref (gAd E 4), .ref (gAd E 5), .ref (gAd E 6), .ref (gAd E 7), .int (nI d.2.2.2.2.2.1), .int (nI d.2.2.2.2.2.2), .int on, .int le, .int wr, .int ss]) := by obtain ⟨dw, dla, dbo, dsy, dva, da, dn⟩ := d; exact hdv.1
  refine Ct.of (by decide) (Nat.le_of_ble_eq_true rfl) (fun sz => ?_)
  refine G.eql [(0, .ref (gAd E (8))), (1, .int (nI t)), (2, .ref (gAd E (kv)))] rfl ?_
  refine G.go tv_X0_place 1 1 [(0, .ref (gAd E (8))), (1, .int (nI t)), (2, .ref (gAd E (kv)))] [.ref (gAd E (8))] rfl ?_
  refine G.getf cls_X0 (8) 2 (by omega) (b8) (by decide) rfl (tbd tv_X0_place rfl) w_286 ?_
  refine G.go tv_X0_place 1 5 [(0, .ref (gAd E (8))), (1, .int (nI t)), (2, .ref (gAd E (kv)))] [.int (nI t), .ref (gAd E (10))] rfl ?_
  refine G.ialdN (10) (t) (by omega) (b10) (ht) (by omega) (tbd tv_X0_place rfl) ?_
  refine G.go tv_X0_place 3 9 [(0, .ref (gAd E (8))), (1, .int (nI t)), (2, .ref (gAd E (kv))), (3, .int ((so) (t)))] [.int ((-1 : Int32)), .int ((so) (t))] rfl ?_
  refine G.cmp_ne 84 (tbd tv_X0_place rfl) (by decide) (fun c9 => ?_) (fun c9 => ?_)
  · skip
    obtain ⟨s, hs, z1, z2, z3⟩ := (o6 t ht).resolve_left c9
    have hsc : (so t).toNatClampNeg = s := by rw [z1]; exact nI_clamp (by omega)
    refine G.eql [(0, .ref (gAd E (8))), (1, .int (nI t)), (2, .ref (gAd E (kv))), (3, .int (nI s))] (by rw [z1]) ?_
    refine pl_tail E f _ _ _ N B (so, bo, st, ro, sp, hd, pu) hE hN o2 hb t s kv x ht hs hkv hx hxb hkb (fun g h1 h2 => ⟨rfl, fun q => absurd q.1 c9, ?_, ?_, h2.wk (fun _ h => Or.inr h)⟩)
    · show DkV E g N (plD B (so, bo, st, ro, sp, hd, pu) d t) on (plL B (so, bo, st, ro, sp, hd, pu) t le) (plW B (so, bo, st, ro, sp, hd, pu) t wr) ss
      have hne : ¬ (so t = -1 ∧ 0 < st (bSlot B (so, bo, st, ro, sp, hd, pu))) := fun q => c9 q.1
      unfold plD plL plW
      rw [if_neg hne, if_neg hne, if_neg hne]
      exact hdv.of (fun k hk => h2 k (DkK_BfK hk))
    · show BfV E g N B (bPlace B (so, bo, st, ro, sp, hd, pu) t x)
      unfold bPlace
      rw [if_neg c9]
      show BfV E g N B (bTail (so, bo, st, ro, sp, hd, pu) (so t).toNatClampNeg x)
      rw [hsc]
      exact h1
  · skip
    refine G.go tv_X0_place 1 13 [(0, .ref (gAd E (8))), (1, .int (nI t)), (2, .ref (gAd E (kv))), (3, .int ((so) (t)))] [.ref (gAd E (8))] rfl ?_
    refine G.callV (8) [] [] (c_X0_leastStamped E f N B (so, bo, st, ro, sp, hd, pu) hE hN hb ho) cls_X0 (by omega) (b8) cw_X0_42 w_723 w_3 (Nat.le_of_ble_eq_true rfl) rfl (Nat.le_of_ble_eq_true rfl) (tbd tv_X0_place rfl) (fun v1 f1 q1 => ?_) (fun _ _ h => h.elim)
    obtain ⟨rfl, rfl⟩ := q1
    refine G.eqs [.int (nI (bLeast st (B - 1)))] rfl ?_
    obtain ⟨s, hse⟩ : ∃ s, s = bLeast st (B - 1) := ⟨_, rfl⟩
    rw [← hse]
    have hs : s < B := by rw [hse]; exact bSlot_lt ho
    have hse2 : bSlot B (so, bo, st, ro, sp, hd, pu) = s := hse.symm
    refine G.go tv_X0_place 2 18 [(0, .ref (gAd E (8))), (1, .int (nI t)), (2, .ref (gAd E (kv))), (3, .int (nI s))] [.ref (gAd E (8))] rfl ?_
    refine G.getf cls_X0 (8) 4 (by omega) (b8) (by decide) rfl (tbd tv_X0_place rfl) w_289 ?_
    refine G.go tv_X0_place 1 22 [(0, .ref (gAd E (8))), (1, .int (nI t)), (2, .ref (gAd E (kv))), (3, .int (nI s))] [.int (nI s), .ref (gAd E (12))] rfl ?_
    refine G.ialdN (12) (s) (by omega) (b12) (hs) (by omega) (tbd tv_X0_place rfl) ?_
    refine G.if_le 60 (tbd tv_X0_place rfl) (by decide) (fun c23 => ?_) (fun c23 => ?_)
    · skip
      have hz : ¬ 0 < st s := Int32.not_lt.mpr c23
      refine pl_mid E f _ _ _ N B (so, bo, st, ro, sp, hd, pu) hE hN o2 hb t s kv x ht hs hkv hx hxb hkb (fun g h1 h2 => ⟨rfl, fun q => absurd q.2 (by rw [hse2]; exact hz), ?_, ?_, h2.wk (fun _ h => Or.inr h)⟩)
      · show DkV E g N (plD B (so, bo, st, ro, sp, hd, pu) d t) on (plL B (so, bo, st, ro, sp, hd, pu) t le) (plW B (so, bo, st, ro, sp, hd, pu) t wr) ss
        have hne : ¬ (so t = -1 ∧ 0 < st (bSlot B (so, bo, st, ro, sp, hd, pu))) := fun q => hz (by rw [← hse2]; exact q.2)
        unfold plD plL plW
        rw [if_neg hne, if_neg hne, if_neg hne]
        exact hdv.of (fun k hk => h2 k (DkK_BfK hk))
      · show BfV E g N B (bPlace B (so, bo, st, ro, sp, hd, pu) t x)
        unfold bPlace
        rw [if_pos c9, if_neg (by rw [hse2]; exact hz), hse2]
        exact h1
    · skip
      refine G.go tv_X0_place 1 27 [(0, .ref (gAd E (8))), (1, .int (nI t)), (2, .ref (gAd E (kv))), (3, .int (nI s))] [.ref (gAd E (8))] rfl ?_
      refine G.getf cls_X0 (8) 0 (by omega) (b8) (by decide) rfl (tbd tv_X0_place rfl) w_283 ?_
      refine G.go tv_X0_place 1 31 [(0, .ref (gAd E (8))), (1, .int (nI t)), (2, .ref (gAd E (kv))), (3, .int (nI s))] [.ref (gAd E (8)), .ref (gAd E (2))] rfl ?_
      refine G.getf cls_X0 (8) 3 (by omega) (b8) (by decide) rfl (tbd tv_X0_place rfl) w_288 ?_
      refine G.go tv_X0_place 1 35 [(0, .ref (gAd E (8))), (1, .int (nI t)), (2, .ref (gAd E (kv))), (3, .int (nI s))] [.int (nI s), .ref (gAd E (11)), .ref (gAd E (2))] rfl ?_
      refine G.ialdN (11) (s) (by omega) (b11) (hs) (by omega) (tbd tv_X0_place rfl) ?_
      refine G.go tv_X0_place 1 37 [(0, .ref (gAd E (8))), (1, .int (nI t)), (2, .ref (gAd E (kv))), (3, .int (nI s))] [.ref (gAd E (8)), .int ((bo) (s)), .ref (gAd E (2))] rfl ?_
      refine G.getf cls_X0 (8) 1 (by omega) (b8) (by decide) rfl (tbd tv_X0_place rfl) w_284 ?_
      refine G.go tv_X0_place 1 41 [(0, .ref (gAd E (8))), (1, .int (nI t)), (2, .ref (gAd E (kv))), (3, .int (nI s))] [.int (nI s), .ref (gAd E (9)), .int ((bo) (s)), .ref (gAd E (2))] rfl ?_
      refine G.aaldN (9) (s) (by omega) (b9) (hs) (by omega) (tbd tv_X0_place rfl) ?_
      refine G.eqs [.ref (gAd E (350 + 2 * N + s)), .int ((bo) (s)), .ref (gAd E (2))] (by rw [rwA_at hs]; rfl) ?_
      obtain ⟨t0, ht0, hb0, hq0⟩ := o5 s hs
      have hbc : (bo s).toNatClampNeg = t0 := by rw [hb0]; exact nI_clamp (by omega)
      have hp : 0 < st s := Int32.not_le.mp c23
      have hev : so t = -1 ∧ 0 < st (bSlot B (so, bo, st, ro, sp, hd, pu)) := ⟨c9, by rw [hse2]; exact hp⟩
      refine G.eqs [.ref (gAd E (350 + 2 * N + s)), .int (nI t0), .ref (gAd E (2))] (by rw [hb0]) ?_
      refine G.callV (2) [.int (nI t0), .ref (gAd E (350 + 2 * N + s))] [] (c_X2_writeBlock E f N d on le wr ss (by omega) hN hdv hdo t0 (350 + 2 * N + s) (ro s) ht0 (by omega) (br s hs) (o7 s) (by unfold DkK; omega)) cls_X2 (by omega) (hdv2) cw_X0_46 w_726 w_727 (Nat.le_of_ble_eq_true rfl) rfl (Nat.le_of_ble_eq_true rfl) (tbd tv_X0_place rfl) (fun v2 f2 q2 => ?_) (fun X g h => ⟨h.1, h.2.1, hev, h.2.2.1, hb.of (fun k hk => h.2.2.2 k (fun q => DkK_BfK q hk)), h.2.2.2.wk (fun _ h => Or.inl h)⟩)
      obtain ⟨rfl, hle, hd1, hf1⟩ := q2
      refine G.eqs [] rfl ?_
      have hb1 : BfV E f2 N B (so, bo, st, ro, sp, hd, pu) := hb.of (fun k hk => hf1 k (fun q => DkK_BfK q hk))
      obtain ⟨g8, g9, g10, g11, g12, gr⟩ := id hb1
      refine G.go tv_X0_place 2 47 [(0, .ref (gAd E (8))), (1, .int (nI t)), (2, .ref (gAd E (kv))), (3, .int (nI s))] [.int (nI s), .ref (gAd E (8))] rfl ?_
      refine G.callV (8) [.int (nI s)] [] (c_X0_drop E f2 N B (so, bo, st, ro, sp, hd, pu) hE hN hb1 ho s hs (by show 1 ≤ hd; rw [o3]; exact bCnt_pos st s hp B hs)) cls_X0 (by omega) (g8) cw_X0_50 w_758 w_6 (Nat.le_of_ble_eq_true rfl) rfl (Nat.le_of_ble_eq_true rfl) (tbd tv_X0_place rfl) (fun v3 f3 q3 => ?_) (fun _ _ h => h.elim)
      obtain ⟨rfl, hb2, hf2⟩ := q3
      refine G.eqs [] rfl ?_
      obtain ⟨k8, k9, k10, k11, k12, kr⟩ := id hb2
      refine G.go tv_X0_place 2 52 [(0, .ref (gAd E (8))), (1, .int (nI t)), (2, .ref (gAd E (kv))), (3, .int (nI s))] [.ref (gAd E (8)), .ref (gAd E (8))] rfl ?_
      refine G.getf cls_X0 (8) 7 (by omega) (k8) (by decide) rfl (tbd tv_X0_place rfl) w_293 ?_
      refine G.go tv_X0_place 2 57 [(0, .ref (gAd E (8))), (1, .int (nI t)), (2, .ref (gAd E (kv))), (3, .int (nI s))] [.int ((pu) + ((1 : Int32))), .ref (gAd E (8))] rfl ?_
      refine G.putfS cls_X0 (8) 7 [.ref (gAd E (2)), .ref (gAd E (9)), .ref (gAd E (10)), .ref (gAd E (11)), .ref (gAd E (12)), .int (nI sp), .int (nI (hd - 1)), .int ((pu) + ((1 : Int32)))] (by omega) (k8) rfl (by decide) rfl rfl rfl (Nat.le_of_ble_eq_true rfl) (tbd tv_X0_place rfl) w_293 ?_
      have hb3 : BfV E _ N B (bPush (bDrop (so, bo, st, ro, sp, hd, pu) s)) := (⟨up_e, up_n (by decide) (k9), up_n (by decide) (k10), up_n (by decide) (k11), up_n (by decide) (k12), Rws.keep (kr) (by omega)⟩ : BfV E (va_up (f3) (8) (.inr (0, [.ref (gAd E (2)), .ref (gAd E (9)), .ref (gAd E (10)), .ref (gAd E (11)), .ref (gAd E (12)), .int (nI sp), .int (nI (hd - 1)), .int ((pu) + ((1 : Int32)))]))) N B (upd so (bo s).toNatClampNeg (-1), bo, upd st s 0, ro, sp, hd - 1, pu + 1))
      refine pl_mid E _ _ _ _ N B (bPush (bDrop (so, bo, st, ro, sp, hd, pu) s)) hE hN o2 hb3 t s kv x ht hs hkv (up_n (fun q => hkb (by rw [q]; exact Or.inl ⟨by decide, by decide⟩)) ((hf2 kv hkb).trans (hkw _ _ _ _ _ hd1 hf1 ht0))) hxb hkb (fun g h1 h2 => ?_)
      have hfb : Fr (BfK N B) f2 g := (hf2.tr (Fr.up (Fr.rf) (Or.inl ⟨by decide, by decide⟩) : Fr (BfK N B) f3 _) (fun _ h => h)).tr h2 (fun _ h => h)
      refine ⟨rfl, fun _ => hle, ?_, ?_, (hf1.wk (fun _ h => Or.inl h)).tr hfb (fun _ h => Or.inr h)⟩
      · show DkV E g N (plD B (so, bo, st, ro, sp, hd, pu) d t) on (plL B (so, bo, st, ro, sp, hd, pu) t le) (plW B (so, bo, st, ro, sp, hd, pu) t wr) ss
        unfold plD plL plW
        rw [if_pos hev, if_pos hev, if_pos hev, hse2]
        show DkV E g N (dWrite d (bo s).toNatClampNeg (ro s)) on (if 0 < le then le - 1 else le) (wr + 1) ss
        rw [hbc]
        exact hd1.of (fun k hk => hfb k (DkK_BfK hk))
      · show BfV E g N B (bPlace B (so, bo, st, ro, sp, hd, pu) t x)
        unfold bPlace
        rw [if_pos c9, if_pos (by rw [hse2]; exact hp), hse2]
        exact h1
/-- what is synced of a block of which none waits stays in a write -/
theorem dWrite_sy {N : Nat} {D : Dk0} {d : DkT} {u t : Nat} {y : Nat → Int32} (h : CDk N D d) (hN : N ≤ 1024) (hu : u < N) (hla : d.2.1 u = -1) : (dWrite d t y).2.2.2.1 u = d.2.2.2.1 u := by
  obtain ⟨w, la, bo, sy, va, a, n⟩ := d
  have hla : la u = -1 := hla
  unfold dWrite
  by_cases e : n = 256
  · have e1 : (if (w, la, bo, sy, va, a, n).2.2.2.2.2.2 = 256 then dKeep (w, la, bo, sy, va, a, n) else (w, la, bo, sy, va, a, n)) = dKeep (w, la, bo, sy, va, a, n) := if_pos e
    rw [e1]
    obtain ⟨h1, h2, h3, h4, h5, h6⟩ := h.1
    have e0 : (a + 0) % 256 = a := by omega
    obtain ⟨b, hb, hbo⟩ := h5 0 (by omega)
    rw [e0] at hbo
    have hne : u ≠ b := by
      rintro rfl
      rcases h6 u hu with ⟨q1, q2⟩ | ⟨i, q1, q2, q3, q4⟩
      · have := q2 0 (by omega)
        rw [e0] at this
        exact this hbo
      · rw [hla] at q2
        exact nI_m1 (by have : (a + i) % 256 < 256 := Nat.mod_lt _ (by decide); omega) q2.symm
    show (if u = (bo a).toNatClampNeg then _ else sy u) = sy u
    rw [hbo, nI_clamp (by omega), if_neg hne]
  · have e1 : (if (w, la, bo, sy, va, a, n).2.2.2.2.2.2 = 256 then dKeep (w, la, bo, sy, va, a, n) else (w, la, bo, sy, va, a, n)) = (w, la, bo, sy, va, a, n) := if_neg e
    rw [e1]
    rfl
theorem DkV.row1 {E : gE} {f : Nat → va_E} {N : Nat} {d : DkT} {on le wr ss : Int32} (h : DkV E f N d on le wr ss) {u : Nat} (hu : u < N) : f (350 + u) = oB (gDA E) 128 (d.2.2.2.1 u) := by
  obtain ⟨w, la, bo, sy, va, a, n⟩ := d
  exact h.2.2.2.2.2.2.2 u hu
theorem k_plS (E : gE) (f : Nat → va_E) (N B gr : Nat) (C : CfT) (hz : CfZ E N B gr) (h : CfV E f N B gr C) (hn : dbN C) (m : Nat) (ho : dbOk N B (m + 1) (dbOf C)) (t u : Nat) (ht : t < N) (hu : u < N) (hla : cA C 6 u = -1) (hx : Byt (cR C 1 u)) {D : Dk0} (hD : CDk N D (dkOf C)) : Ct E 8 yX0_place cX0_place 4 none [.ref (gAd E (8)), .int (nI t), .ref (gAd E (350 + u))] f (fun v g => v = none ∧ (oPl B t (cR C 1 u) (dbOf C)).1 = true ∧ CfV E g N B gr (cDb C (cS C 208) (oPl B t (cR C 1 u) (dbOf C)).2) ∧ Fr CfK f g, fun X g => X = "java/lang/UnsupportedOperationException" ∧ (oPl B t (cR C 1 u) (dbOf C)).1 = false ∧ CfV E g N B gr (cDb C 0 ((oPl B t (cR C 1 u) (dbOf C)).2.1, (oPl B t (cR C 1 u) (dbOf C)).2.2.1, -1, (oPl B t (cR C 1 u) (dbOf C)).2.2.2.2.1, (oPl B t (cR C 1 u) (dbOf C)).2.2.2.2.2)) ∧ Fr CfK f g) := by
  obtain ⟨z1, z2, z3, z4, z5, z6, z7⟩ := id hz
  obtain ⟨v1, v2⟩ := h.db hn
  obtain ⟨o1, o2, o3⟩ := id ho
  have hkw : ∀ (g : Nat → va_E) (t0 : Nat) (y : Nat → Int32) (le9 wr9 : Int32), DkV E g N (dWrite (dkOf C) t0 y) (cS C 208) le9 wr9 (cS C 211) → Fr (DkK N) f g → t0 < N → g (350 + u) = oB (gDA E) 128 (cR C 1 u) := fun g t0 y le9 wr9 q1 _ _ => by
    rw [q1.row1 hu, dWrite_sy hD z2 hu hla]
    rfl
  refine (c_X0_placeG E f N B (bfOf C) (by omega) z2 v2 o2 (dkOf C) (cS C 208) (cS C 209) (cS C 210) (cS C 211) v1 o1 t (350 + u) (cR C 1 u) ht (by omega) (h.r1 u hu) hx (by unfold BfK; omega) hkw).mono (fun v g q => ?_) (fun X g q => ?_)
  · obtain ⟨q1, q2, q3, q4, q5⟩ := q
    have e : oPl B t (cR C 1 u) (dbOf C) = (true, plD B (bfOf C) (dkOf C) t, bPlace B (bfOf C) t (cR C 1 u), plL B (bfOf C) t (cS C 209), plW B (bfOf C) t (cS C 210), cS C 211) := if_neg (fun z => q2 z.1 z.2)
    rw [e]
    exact ⟨q1, rfl, h.ofDb (s := (plD B (bfOf C) (dkOf C) t, bPlace B (bfOf C) t (cR C 1 u), plL B (bfOf C) t (cS C 209), plW B (bfOf C) t (cS C 210), cS C 211)) ⟨q3, q4⟩ q5, q5.wk (fun _ z => DBK_C z)⟩
  · obtain ⟨q1, q2, q3, q4, q5, q6⟩ := q
    have e : oPl B t (cR C 1 u) (dbOf C) = (false, dbOf C) := if_pos ⟨q3, q2⟩
    rw [e]
    exact ⟨q1, rfl, h.ofDx (s := dbOf C) ⟨q4, q5⟩ q6, q6.wk (fun _ z => DBK_C z)⟩
