/-! ===== pure: unmount ===== -/
section PZY
variable {N B gr r u : Nat} {V W : Nat → Rw} {m m' : M5} {tk : Nat → Bool} {A A' : MS} {D D' : CfT} {R R' R0 : RfT} {g : Bool} {hd hi : Nat → Nat} {tp : Nat → Int32} {tl : Nat} {o : Hw}
theorem z_nh23 : ∀ (n k : Nat) (X : RfT), k ≤ 32 → 32 - k < n → Fn [] [52, 53] R X → (∀ c, c < 65 → rA X 52 c = 0) → (∀ c, c < k → rA X 53 c = 0) → ∃ R', e_nothingHeld_23 n X (nI k) = some R' ∧ Fn [] [52, 53] R R' ∧ (∀ c, c < 65 → rA R' 52 c = 0) ∧ ∀ c, c < 32 → rA R' 53 c = 0 := by
  intro n
  induction n with
  | zero => intro k _ _ h; exact absurd h (Nat.not_lt_zero _)
  | succ n ih =>
    intro k X hk hn f h52 hz
    by_cases c : k = 32
    · refine ⟨X, ?_, f, h52, fun d hd => hz d (by omega)⟩
      rw [c, e_nothingHeld_23, if_pos (show (32 : Int32) ≤ nI 32 from nI_le (a := 32) (b := 32) (by decide) (by decide))]
    · rw [e_nothingHeld_23, if_neg (show ¬ (32 : Int32) ≤ nI k from nI_ge (b := 32) (by omega) (by decide)), st_n (by omega) (by decide), nI_1]
      refine ih (k + 1) _ (by omega) (by omega) (f.tr (Fn.a (by decide))) (fun d hd => h52 d hd) (fun d hd => ?_)
      rw [rA_e]
      by_cases e : d = k
      · rw [e, pk_us]
      · rw [pk_un e]
        exact hz d (by omega)
theorem z_nh2 : ∀ (n k : Nat) (X : RfT), k ≤ 65 → 65 - k < n → Fn [] [52, 53] R X → (∀ c, c < k → rA X 52 c = 0) → ∃ R', e_nothingHeld_2 n X (nI k) = some R' ∧ Fn [] [52, 53] R R' ∧ (∀ c, c < 65 → rA R' 52 c = 0) ∧ ∀ c, c < 32 → rA R' 53 c = 0 := by
  intro n
  induction n with
  | zero => intro k _ _ h; exact absurd h (Nat.not_lt_zero _)
  | succ n ih =>
    intro k X hk hn f hz
    by_cases c : k = 65
    · rw [c, e_nothingHeld_2, if_pos (show (65 : Int32) ≤ nI 65 from nI_le (a := 65) (b := 65) (by decide) (by decide))]
      exact z_nh23 fuL 0 X (by decide) (by rw [fuL_4]; omega) f (fun d hd => hz d (by omega)) (fun c hc => absurd hc (Nat.not_lt_zero _))
    · rw [e_nothingHeld_2, if_neg (show ¬ (65 : Int32) ≤ nI k from nI_ge (b := 65) (by omega) (by decide)), st_n (by omega) (by decide), nI_1]
      refine ih (k + 1) _ (by omega) (by omega) (f.tr (Fn.a (by decide))) (fun d hd => ?_)
      rw [rA_e]
      by_cases e : d = k
      · rw [e, pk_us]
      · rw [pk_un e]
        exact hz d (by omega)
theorem z_nothingHeld : ∃ R', e_nothingHeld R = some R' ∧ Fn [] [52, 53] R R' ∧ (∀ c, c < 65 → rA R' 52 c = 0) ∧ ∀ c, c < 32 → rA R' 53 c = 0 := z_nh2 (R := R) fuL 0 R (by decide) (by rw [fuL_4]; omega) Fn.rf (fun c hc => absurd hc (Nat.not_lt_zero _))
theorem rsC_z {i : Nat} (hi : 1 ≤ i) : ∀ n, rsC (fun _ => 0) i n = 0
  | 0 => rfl
  | n + 1 => by
    show rsC (fun _ => 0) i n + (if 0 = i then 1 else 0) = 0
    rw [rsC_z hi n, if_neg (by omega)]
/-- nobody holds -/
theorem held_0 {i : Nat} (h52 : ∀ c, c < 65 → rA R 52 c = 0) (h53 : ∀ c, c < 32 → rA R 53 c = 0) (hi : ir i) : e_isHeld R (nI i) = some (bI (decide ((0 : Nat) ≠ 0))) := by
  have h65 : i < 65 := by have := hi.2; omega
  rw [e_isHeld, ld_n h65 (by decide), h52 i h65, if_neg (show ¬ (0 : Int32) < 0 by decide), bnd_o z_handlesOn, ho_rs (hi := fun _ => 0) (by omega) (fun k hk => ⟨h53 k hk, by decide⟩) 32 (Nat.le_refl _), rsC_z hi.1, if_pos (show nI 0 ≤ 0 by decide)]
  rfl
theorem OffT.dt {S T : List Nat} (h : OffT D R) (d : Dt D D') (f : Fq S T R R') (h5 : 5 ∉ S) (h4 : 4 ∉ T) : OffT D' R' := by
  obtain ⟨tp, tl, ⟨t1, t2, t3⟩, a2, a3, a4, a5, a6⟩ := h
  exact ⟨tp, tl, ⟨t1, fun j => by rw [show cA D' 1 = cA D 1 from d.2 1 (by decide)]; exact t2 j, fun j hj => by rw [f.2.1 4 h4]; exact t3 j hj⟩, by rw [show cS D' 1 = cS D 1 from d.1 1 (by decide)]; exact a2, by rw [f.1 5 h5]; exact a3, a4, by rw [show cA D' 42 = cA D 42 from d.2 42 (by decide)]; exact a5, by rw [show cA D' 53 = cA D 53 from d.2 53 (by decide)]; exact a6⟩
theorem OffT.dead (h : OffT D R) (d : Dt D D') (x : Dd N R o R') : OffT D' R' := by
  obtain ⟨tp, tl, ⟨t1, t2, t3⟩, a2, a3, a4, a5, a6⟩ := h
  exact ⟨tp, tl, ⟨t1, fun j => by rw [show cA D' 1 = cA D 1 from d.2 1 (by decide)]; exact t2 j, fun j hj => by rw [x.1.2.2.2.2.2.2.2.2.2.2]; exact t3 j hj⟩, by rw [show cS D' 1 = cS D 1 from d.1 1 (by decide)]; exact a2, by rw [x.1.2.2.2.2.2.2.2.2.2.1 5 (by decide)]; exact a3, a4, by rw [show cA D' 42 = cA D 42 from d.2 42 (by decide)]; exact a5, by rw [show cA D' 53 = cA D 53 from d.2 53 (by decide)]; exact a6⟩
/-- another model that says the same -/
theorem IC.mdl {u' : Nat} (h : IC N B gr u A D R m V) (hj : JX N B gr A' D R' m' V (fun _ => false)) (hb : MB N B gr u' m') (hbef : ∀ b, 43 ≤ b → b < N → befM m' b = befM m b) (h2 : ∀ b, m'.2.2.2.2 b = 2 → m.2.2.2.2 b = 2) (eo : oA A' = oA A) (ek : kA A' = kA A) (eg : gA A' = gA A) {S T : List Nat} (f : Fq S T R R') (h34 : 34 ∉ S) (h36 : 36 ∉ T) : IC N B gr u' A' D R' m' V := by
  obtain ⟨a1, a2, a3, a4, ⟨n1, n2, n3, n4⟩, a6, a7, a8⟩ := h
  exact ⟨hj, a2, hb, by rw [f.2.1 36 h36]; exact a4, ⟨⟨fun b => by rw [eo]; exact n1.1 b, fun b => by rw [ek]; exact n1.2 b⟩, fun b b1 b2 => by rw [n2 b b1 b2, hbef b b1 b2], n3, fun b q => n4 b (h2 b q)⟩, eg.trans a6, a7, by rw [f.1 34 h34]; exact a8⟩
theorem IC.flush (hN1 : 61 ≤ N) (hN : N ≤ 1024) (hgr : 1 ≤ gr) (hu : u + 4200 < 2 ^ 31) (h : IC N B gr u A D R m V) : (∃ A' R', fFl N B gr A D = some (.inl (nI m.2.2.2.1.length, A', D)) ∧ e_flushQueue R = some (nI m.2.2.2.1.length, R') ∧ IC N B gr u A' D R' (flM N B m) V ∧ Fq [29, 47, 22, 25, 9, 10, 12, 13, 14, 18, 20] [35, 37, 46, 23, 24, 38, 44, 45, 6, 7, 8, 15, 17, 39, 40] R R') ∨ ∃ v A' R', fFl N B gr A D = some (.inr (0, A', D)) ∧ e_flushQueue R = some (v, R') ∧ Dead N u R A' D R' := by
  have mb := h.2.2.1
  have hph := mb.2.1
  have hl := mb.2.2.1
  have hl2 := mb.2.2.2.1
  have hph2 := hph
  unfold Phi at hph
  obtain ⟨v, R1, e, o⟩ := h.1.2.flush hN1 hN mb.1 (by omega)
  have em : mA A = m := h.1.1.1
  have hsp : hSp A.1 + 100 * A.2.2.2.1.length + 200 < 2 ^ 31 := by
    have e1 : A.1 = m.1 := by rw [← em]; rfl
    have e2 : A.2.2.2.1 = m.2.2.2.1 := by rw [← em]; rfl
    rw [e1, e2]
    omega
  have el : A.2.2.2.1.length = m.2.2.2.1.length := by rw [← em]; rfl
  rcases c_fFl (N := N) (B := B) (gr := gr) (D := D) hsp with ⟨t1, A1, f1, f2, f3, f4, f5⟩ | ⟨t1, f1⟩
  · rw [em] at t1
    rcases o with ⟨-, o2, o3, o4⟩ | ⟨q, -⟩
    · rw [el] at f1
      exact Or.inl ⟨A1, R1, f1, by rw [e, o2], h.mdl ⟨h.1.1.flush hN1 mb.1 t1 f2 f3 f4, o3⟩ (mb.fl hN1 hgr t1) (fun b b1 b2 => flM_bef hN1 mb.1 t1 b1 b2) (fun b => fl_2.mp) f3 f4 f5 o4 (by decide) (by decide), o4⟩
    · rw [t1] at q
      cases q
  · rw [em] at t1 f1
    rcases o with ⟨q, -⟩ | ⟨-, q⟩
    · rw [t1] at q
      cases q
    · exact Or.inr ⟨v, _, R1, f1, e, q, FlT.sfe hN1 ⟨⟨m, Flr.rf, t1, rfl⟩, h.1.1.tj⟩ mb.2.2.2.2.2.2.1 mb.1 h.1.2.1.1.2.1.lgn hph2⟩
theorem IC.apl (hN1 : 61 ≤ N) (hN : N ≤ 1024) (hu : u + 4200 < 2 ^ 31) (h : IC N B gr u A D R m V) : (∃ A' R', fAp N B gr A D = some (.inl ((), A', D)) ∧ e_applyLog R = some R' ∧ IC N B gr (u + 100) A' D R' (apM N B m) V ∧ Fq [22, 25, 9, 10, 12, 13, 14, 18, 20] [38, 44, 6, 7, 8, 15, 17, 39, 40] R R') ∨ ∃ A' R', fAp N B gr A D = some (.inr (0, A', D)) ∧ e_applyLog R = some R' ∧ Dead N (u + 100) R A' D R' := by
  have mb := h.2.2.1
  have hph := mb.2.1
  unfold Phi at hph
  have em : mA A = m := h.1.1.1
  have e1 : A.1 = m.1 := by rw [← em]; rfl
  have e2 : A.2.1 = m.2.1 := by rw [← em]; rfl
  have e3 : A.2.2.1 = m.2.2.1 := by rw [← em]; rfl
  obtain ⟨R1, e, o⟩ := RX.apply hN1 hN h.1.2.1 mb.1 (by omega)
  have hc : fAp N B gr A D = if (aApl N B A.2.1 A.2.2.1 A.1).1 = true then some (.inl ((), ((aApl N B A.2.1 A.2.2.1 A.1).2, (lApl A.2.1 A.2.2.1).1, (lApl A.2.1 A.2.2.1).2, A.2.2.2), D)) else some (.inr (0, ((aApl N B A.2.1 A.2.2.1 A.1).2, A.2), D)) := by
    unfold fAp
    rw [if_pos (by rw [e1]; omega)]
  rcases o with ⟨t1, x1, f1⟩ | ⟨t1, x1⟩
  · rw [e1, e2, e3, if_pos t1] at hc
    have hbf : ∀ b, 43 ≤ b → b < N → befM (apM N B m) b = befM m b := fun b b1 b2 => by
      have z := ap_bef hN1 mb.1 t1 m.2.2.2.1.length b1 b2
      rw [← Wj_all (m := m), ← z, ← Wj_all]
      rfl
    have y1 : RY N B gr R1 (apM N B m) V (fun _ => false) := ⟨x1, fun c hc hne => by
      rw [(wOw_fq f1 (by decide) (by decide) (by decide)).1] at hne
      exact h.1.2.2.1 c hc hne, h.1.2.2.2⟩
    refine Or.inl ⟨_, R1, hc, e, h.mdl ⟨?_, y1⟩ (mb.ap hN1 t1) hbf (fun b q => q) rfl rfl rfl f1 (by decide) (by decide), f1⟩
    exact h.1.1.mdl (show mA (_, _, _, A.2.2.2) = apM N B m from by rw [← em]; rfl) rfl rfl hbf rfl
  · rw [e1, e2, e3, if_neg (by rw [t1]; decide)] at hc
    refine Or.inr ⟨_, R1, hc, e, x1, ⟨mb.2.2.2.2.2.2.1.apd hN1 mb.1 h.1.2.1.1.2.1.lgn, ?_⟩, h.1.1.tj⟩
    have q := (aApl_all (tu := m.2.2.1) hN1 mb.1.1 mb.1.2.1).2.1
    have q2 := mb.1.2.2.1
    show hSp (aApl N B m.2.1 m.2.2.1 m.1).2 ≤ u + 100
    omega
/-- what comes of unmount -/
def RetU (N B gr u : Nat) (cl : Option (FR Unit)) (rf : Option RfT) : Prop := (∃ A' D' R', cl = some (.inl ((), A', D')) ∧ rf = some R' ∧ rS R' 0 = 0 ∧ Und N B gr u A' D' R') ∨ (∃ A' D' R', cl = some (.inr (0, A', D')) ∧ rf = some R' ∧ rS R' 0 = 2 ∧ Offd N B gr u A' D' R')
theorem RetU.up {u' : Nat} {cl : Option (FR Unit)} {rf : Option RfT} (h : RetU N B gr u cl rf) (hu : u ≤ u') : RetU N B gr u' cl rf := by
  rcases h with ⟨A', D', R', a1, a2, a3, a4⟩ | ⟨A', D', R', a1, a2, a3, a4⟩
  · exact Or.inl ⟨A', D', R', a1, a2, a3, a4.1, a4.2.1, a4.2.2.1, a4.2.2.2.1, a4.2.2.2.2.up hu⟩
  · exact Or.inr ⟨A', D', R', a1, a2, a3, a4.up hu⟩
theorem bnd_sm {α β : Type} {x : α} {k : α → Option β} : bnd (some x) k = k x := rfl
theorem dd_flush (h : Dd N R0 o R) : e_flushQueue R = some (0, R) := by
  rw [e_flushQueue, show fuL = 3999999 + 1 from rfl, e_flushQueue_2, if_pos h.1.1, if_pos h.1.1]
theorem dd_34 (h : Dd N R0 o R) : e_unmount_34 R = some (setS R 0 2) := by
  have e21 : setS R 21 0 = R := setS_id h.1.2.1
  rw [e_unmount_34, bnd2_o (dd_flush h), bnd_o h.apply, if_pos h.1.1, ptR, e21, e_answer, if_pos h.1.1, ptR, if_pos (show rS (setS R 0 2) 11 = 0 from h.1.1)]
  rfl
theorem RetU.off {cl : Option (FR Unit)} {rf : Option RfT} {u' : Nat} (ho : OffT D R) (d : Dt D D') (x : Dead N u R A' D' R') (kc : KC N B gr R) (e1 : cl = some (.inr (0, A', D'))) (e2 : rf = some (setS R' 0 2)) (hu : u ≤ u') : RetU N B gr u' cl rf := Or.inr ⟨A', D', _, e1, e2, rS_0, ho.dead d (Dd.thr x.1), ⟨R, Dd.thr x.1, kc⟩, x.2.up hu⟩
theorem u_19 (hN1 : 61 ≤ N) (hN : N ≤ 1024) (hgr : 1 ≤ gr) (hgr2 : gr ≤ 16) (hu : u + 5000 < 2 ^ 31) (ic : IC N B gr u A D R m V) (ho : OffT D R) : RetU N B gr (u + 400) (d_X11_unmount_23 N B gr A D) (e_unmount_19 R) := by
  have on0 : ¬ rS R 11 = 0 := ic.1.2.1.1.1.on
  have kc := ic.1.2.kc
  obtain ⟨R1, h1, f1, z52, z53⟩ := z_nothingHeld (R := R)
  have ic1 : IC N B gr u A D R1 m V := ic.fr f1 (by decide) (by decide) (by decide)
  have ho1 : OffT D R1 := ho.fr f1 (by decide) (by decide)
  have kc1 := ic1.1.2.kc
  rw [e_unmount_19, if_neg on0, bnd_o h1, d_X11_unmount_23]
  rcases ic1.lost (x1 := 1) (T := fun _ => 0) hN1 hN hgr hgr2 (by omega) (fun z => absurd z (by decide)) (fun _ _ _ => rfl) (fun i hi => held_0 z52 z53 hi) with ⟨A2, D2, R2, m2, W, a1, a2, a3, a4, a5, -, -⟩ | ⟨A2, D2, R2, a1, a2, a3, a4⟩
  · rw [bndF_l a1, bnd_o a2, e_unmount_34]
    have ho2 : OffT D2 R2 := ho1.dt a4 a5 (by decide) (by decide)
    have kc2 := a3.1.2.kc
    rcases a3.flush hN1 hN hgr (by omega) with ⟨A3, R3, b1, b2, b3, b4⟩ | ⟨v, A3, R3, b1, b2, b3⟩
    · rw [bndF_l b1, bnd2_o b2]
      have ho3 : OffT D2 R3 := ho2.dt Dt.rf b4 (by decide) (by decide)
      have kc3 := b3.1.2.kc
      rcases b3.apl hN1 hN (by omega) with ⟨A4, R4, c1, c2, c3, c4⟩ | ⟨A4, R4, c1, c2, c3⟩
      · have on4 : ¬ rS R4 11 = 0 := c3.1.2.1.1.1.on
        have ho4 : OffT D2 R4 := ho3.dt Dt.rf c4 (by decide) (by decide)
        have kc4 := c3.1.2.kc
        rw [bndF_l c1, bnd_o c2, if_neg on4]
        have mb := c3.2.2.1
        have em : mA A4 = apM N B (flM N B m2) := c3.1.1.1
        have e1 : A4.1 = (apM N B (flM N B m2)).1 := by rw [← em]; rfl
        have hrh : RH N B A4.1 R4 := by rw [e1]; exact c3.1.2.1.1.1
        have hwk : WkO N R4 := c3.1.2.1.1.2.2.2.2.1
        have sf : Safe N A4.1 := by
          rw [e1]
          exact mb.2.2.2.2.2.2.1.safe hN1 mb.1 c3.1.2.1.1.2.1.lgn
        have hph : hSp A4.1 ≤ u + 200 := by
          have q := mb.2.1
          unfold Phi at q
          rw [e1]
          omega
        obtain ⟨s1, s2⟩ := z_sett hN hrh hwk
        obtain ⟨x1, x2, x3, x4, x5⟩ := aSe_all (N := N) (B := B) A4.1
        have sf2 : Safe N (aSe N A4.1).2 := sf.sub x2
        rw [bnd_o s1]
        rcases s2 with ⟨y1, y2, y3⟩ | ⟨y1, y2⟩
        · have on5 : ¬ rS (rSett R4) 11 = 0 := y2.on
          refine Or.inl ⟨((aSe N A4.1).2, A4.2), sS D2 2 0, setS (setS (rSett R4) 21 0) 0 0, ?_, ?_, rS_0, ?_⟩
          · rw [fSe, if_pos y1]
            rfl
          · rw [ptR, e_answer, if_neg (show ¬ rS (setS (rSett R4) 21 0) 11 = 0 from on5), ptR, if_neg (show ¬ rS (setS (setS (rSett R4) 21 0) 0 0) 11 = 0 from on5)]
            rfl
          · have f5 : Fn [21, 0] [] (rSett R4) (setS (setS (rSett R4) 21 0) 0 0) := (Fn.s (by decide)).tr (Fn.s (by decide))
            have hq : RQu N R4 [] := c3.1.2.1.1.2.2.1
            have o5 : OffT D2 (rSett R4) := ho4.dt Dt.rf y3 (by decide) (by decide)
            obtain ⟨tp, tl, ⟨t1, t2, t3⟩, a2', a3', a4', a5', a6'⟩ := o5
            refine ⟨⟨tp, tl, ⟨t1, t2, t3⟩, a2', a3', a4', a5', a6'⟩, pk_us (f := D2.1) (k := 2), ⟨y2.fn f5 (by decide) (by decide), (hwk.fq y3 (by decide) (by decide) (by decide) (by decide) (by decide)).fq f5.1 (by decide) (by decide) (by decide) (by decide) (by decide), (hq.fq y3 (by decide) (by decide) (by decide) (by decide) (by decide)).fq f5.1 (by decide) (by decide) (by decide) (by decide) (by decide), ?_, ?_, ?_, ?_⟩, ?_, ⟨sf2, ?_⟩, ?_⟩
            · rw [f5.1.1 1 (by decide), y3.1 1 (by decide)]
              exact kc4.1
            · rw [f5.1.1 3 (by decide), y3.1 3 (by decide)]
              exact kc4.2.2
            · show upd (upd (rSett R4).1 21 0) 0 0 21 = 0
              rw [pk_un (by decide), pk_us]
            · rw [f5.1.1 34 (by decide), y3.1 34 (by decide)]
              exact c3.2.2.2.2.2.2.2
            · exact ⟨(x5 y1).1, (x5 y1).2⟩
            · show hSp (aSe N A4.1).2 ≤ _
              rw [x4]
              omega
            · exact (c3.1.1.tj).dd (show cS (sS D2 2 0) 2508 = cS D2 2508 from rfl) rfl
        · refine RetU.off (u := u + 200) ho4 Dt.rf ⟨y2, ⟨sf2, by rw [x4]; exact hph⟩, c3.1.1.tj⟩ kc4 (A' := ((aSe N A4.1).2, A4.2)) ?_ ?_ (by omega)
          · rw [fSe, if_neg (by rw [y1]; decide)]
            rfl
          · have e21 : setS (rSett R4) 21 0 = rSett R4 := setS_id y2.1.2.1
            rw [ptR, e21, e_answer, if_pos y2.1.1, ptR, if_pos (show rS (setS (rSett R4) 0 2) 11 = 0 from y2.1.1)]
            rfl
      · rw [bndF_r c1, bnd_o c2, if_pos c3.1.1.1]
        refine RetU.off (u := u + 200) ho3 Dt.rf c3 kc3 rfl ?_ (by omega)
        have e21 : setS R4 21 0 = R4 := setS_id c3.1.1.2.1
        rw [ptR, e21, e_answer, if_pos c3.1.1.1, ptR, if_pos (show rS (setS R4 0 2) 11 = 0 from c3.1.1.1)]
        rfl
    · rw [bndF_r b1, bnd2_o b2, bnd_o b3.1.apply, if_pos b3.1.1.1]
      refine RetU.off (u := u + 100) ho2 Dt.rf b3 kc2 rfl ?_ (by omega)
      have e21 : setS R3 21 0 = R3 := setS_id b3.1.1.2.1
      rw [ptR, e21, e_answer, if_pos b3.1.1.1, ptR, if_pos (show rS (setS R3 0 2) 11 = 0 from b3.1.1.1)]
      rfl
  · rw [bndF_r a1, bnd_o a2, dd_34 a3.1]
    exact RetU.off (u := u + 100) ho1 a4 a3 kc1 rfl rfl (by omega)
theorem r_unmount (hN1 : 61 ≤ N) (hN : N ≤ 1024) (hgr : 1 ≤ gr) (hgr2 : gr ≤ 16) (hu : u + 5500 < 2 ^ 31) (h : IM N B gr u g A D R m V tk hd hi tp tl) (hL : LH V hd hi := by assumption) : RetU N B gr (u + 500) (d_X11_unmount N B gr A D) (e_unmount R) := by
  have hf := h.2.2.2.2.2.2.2.1
  obtain ⟨n1, R1, n2, h1, ot, t0, -, -⟩ := h.nm hN
  obtain ⟨R1', n2', -, -, -, -, -, c7⟩ := j_nm (g := g) hN h.1 hf.2.2.2.2.2.2.1 hf.2.2.2.2.2.1 (fun z => ⟨(h.2.2.2.2.2.2.2.2.2.1 z).2.1, (h.2.2.2.2.2.2.2.2.2.1 z).2.2.1⟩)
  have eR : R1' = R1 := (Prod.mk.inj (Option.some.inj (n2'.symm.trans n2))).2
  subst eR
  rw [d_X11_unmount, bndF_l n1, e_unmount, bnd2_o n2, i00]
  have hg := h1.2.2.2.2.2.2.2.2.1
  have h34 := h1.2.2.2.2.2.2.2.1.2.2.2.2.2.2.1
  have ho : OffT D R1' := Mtd.of (h1.mtd (Nat.le_refl _) hL)
  cases g with
  | false =>
    rw [if_pos (show gpI A = 0 by unfold gpI; rw [show A.2.2.2.2.2.2.2 = false from hg]; rfl), if_pos (show rS R1' 34 = 0 by rw [h34]; rfl)]
    refine (u_19 hN1 hN hgr hgr2 (by omega) (h1.ic (fun b hb => ?_)) ho).up (by omega)
    have q := c7 rfl b hb
    unfold wOw at q
    by_cases c : rA R1' 36 b = -1
    · exact c
    · rw [if_neg c] at q
      cases q
  | true =>
    obtain ⟨A1, D1, R2, d1, d2, h2, -, ot2⟩ := h1.drop hN1 hN
    have hL2 : OffT D1 R2 := by
      obtain ⟨b1, b2, b3, b4, b5, -⟩ := h2.2.2.2.2.2.2.2.1
      exact ⟨tp, tl, b1, b2, b3, b4, h2.2.2.2.2.2.2.2.2.2.2.2, b5.2⟩
    rw [if_neg (show ¬ gpI A = 0 by unfold gpI; rw [show A.2.2.2.2.2.2.2 = true from hg]; decide), if_neg (show ¬ rS R1' 34 = 0 by rw [h34]; decide), bnd2_o d1, d2, bnd_a]
    have kc2 := h2.1.2.kc
    rcases lostW (x1 := 0) (T := tmM (hdV (befM m) hd 65) (hiV (befM m) hi 65)) hN1 hN hgr hgr2 (by omega) (h2.wk hN1 (by omega) ot2) h2.2.1 h2.2.2.1 h2.2.2.2.2.1 (h2.2.2.2.2.2.2.2.2.2.1 rfl).2.1 h2.2.2.2.2.2.2.2.2.2.2.2 h2.2.2.2.2.2.2.2.2.1 h2.2.2.2.2.2.2.2.1.2.2.2.2.2.2.1 (fun _ i hi0 => by
      have hi65 : i < 65 := by have := hi0.2; omega
      refine ⟨?_, d_tm h2.2.2.2.2.2.1 hi65⟩
      have := rsC_le (rs := hiV (befM m) hi 65) (v := i) 32
      have := (h2.2.2.2.2.2.1.1 i hi65).2.2
      unfold tmM
      omega) (fun z => absurd rfl z) (fun i hi0 => e_tm h2.2.2.2.2.2.1 (by have := hi0.2; omega)) with ⟨A3, D3, R3, m3, W, a1, a2, a3, a4, a5, -, -⟩ | ⟨A3, D3, R3, a1, a2, a3, a4⟩
    · rw [bndF_l a1, bnd_o a2, bnd_sm]
      exact (u_19 hN1 hN hgr hgr2 (by omega) a3 (hL2.dt a4 a5 (by decide) (by decide))).up (by omega)
    · rw [bndF_r a1, bnd_o a2, bnd_sm, e_unmount_19, if_pos a3.1.1.1, dd_34 a3.1]
      exact RetU.off (u := u + 100) hL2 a4 a3 kc2 rfl rfl (by omega)
end PZY
