/-! ===== pure: an inode goes, loses blocks, gets blocks ===== -/
section PWR
variable {N B gr : Nat} {V V' V1 W : Nat → Rw} {ow : Nat → Int} {i : Nat} {m m' : M5} {tk tk' : Nat → Bool} {X : Nat → Prop}
theorem PW.cg (h : PW N V) (e : ∀ j x, ir j → x < 4234 → pv W j x = pv V j x) (e43 : W 43 = V 43) : PW N W := by
  refine ⟨by rw [e43]; exact h.1, fun j x hj hx => by rw [e j x hj hx]; exact h.2.1 j x hj hx, fun j x j2 y hj hx hj2 hy h0 he => ?_, fun b b1 b2 => ?_⟩
  · rw [e j x hj hx] at h0 he
    rw [e j2 y hj2 hy] at he
    exact h.2.2.1 j x j2 y hj hx hj2 hy h0 he
  · rw [e43, h.2.2.2 b b1 b2]
    exact ⟨fun ⟨j, x, i1, i2, i3⟩ => ⟨j, x, i1, i2, by rw [e j x i1 i2]; exact i3⟩, fun ⟨j, x, i1, i2, i3⟩ => ⟨j, x, i1, i2, by rw [← e j x i1 i2]; exact i3⟩⟩
theorem WFs.owe {o2 : Nat → Int} (h : WFs N V ow) (e : ∀ j, ir j → ow j = o2 j) : WFs N V o2 := by
  obtain ⟨a1, a2, a3, a4, a5, a6, a7, a8⟩ := h
  exact ⟨a1, a2, a3, a4, a5, a6, a7, fun j hj => by rw [← e j hj]; exact a8 j hj⟩
theorem rm_h {o : Nat} (hi : ir i) : rmV V i (homeM i) o = if startM i ≤ o ∧ o < startM i + 32 then 0 else V (homeM i) o := by
  have := ir_home hi
  have e : rmV V i (homeM i) = zr (V (homeM i)) (fun o => startM i ≤ o ∧ o < startM i + 32) := vU_s
  rw [e]
  by_cases c : startM i ≤ o ∧ o < startM i + 32
  · rw [if_pos c]
    exact zr_t c
  · rw [if_neg c]
    exact zr_f c
theorem rm_x {c : Nat} (h1 : c ≠ homeM i) (h2 : c ≠ 44) : rmV V i c = V c := by
  unfold rmV
  rw [vU_n h1, vU_n h2]
theorem rm_44 (hi : ir i) : rmV V i 44 = bsW (V 44) (i - 1) false := by
  have := ir_home hi
  unfold rmV
  rw [vU_n (by omega), vU_s]
theorem rm_ub {j a : Nat} (hi : ir i) (hj : ir j) (ha : a < 32) : ub (rmV V i (homeM j)) (startM j + a) = if j = i then 0 else ub (V (homeM j)) (startM j + a) := by
  by_cases c : j = i
  · rw [if_pos c, c]
    unfold ub
    rw [rm_h hi, if_pos ⟨by omega, by omega⟩]
    rfl
  · rw [if_neg c]
    by_cases e : homeM j = homeM i
    · unfold ub
      rw [e, rm_h hi, if_neg (fun z => ?_)]
      rcases ino_ap hj.1 hi.1 c with q | q
      · exact q e
      · omega
    · have := ir_home hj
      rw [rm_x e (by omega)]
theorem cX_all {x : Nat} : cX 0 x := by
  unfold cX
  split
  · exact Nat.zero_le _
  · split
    · exact Nat.zero_le _
    · split
      · exact Nat.zero_le _
      · split
        · exact Nat.zero_le _
        · split
          · exact Nat.zero_le _
          · exact Nat.zero_le _
theorem sz_0 (h : ∀ a, a < 32 → ub (W (homeM i)) (startM i + a) = 0) : szM W i = 0 := by
  have e : szM W i = szM (fun _ => zR) i := sz_c (fun b b1 b2 => by rw [h b (by omega)]; rfl)
  rw [e]
  rfl
/-- an inode without names goes -/
theorem WFs.gone (h : WFs N V ow) (hN1 : 61 ≤ N) (hN : N ≤ 1024) (hi : ir i) (hi1 : i ≠ 1) (hz : ZS N m V tk (FSx V i (cX 0)) (ZSx V i (cX 0)) m' V' tk') (hn : nmC V i 65 = 0) (hs : f1 V i 0 = 2 → ∀ s, s < szM V i / 16 → sln V i s = 0) : WFs N (rmV V' i) (fun j => if j = i then 0 else ow j) ∧ (∀ j, ir j → j ≠ i → f1 (rmV V' i) j 0 = f1 V j 0 ∧ f1 (rmV V' i) j 1 = f1 V j 1 ∧ szM (rmV V' i) j = szM V j ∧ ∀ x, x < 4234 → pv (rmV V' i) j x = pv V j x) ∧ (∀ d s, ir d → d ≠ i → f1 V d 0 = 2 → s < szM V d / 16 → sln (rmV V' i) d s = sln V d s) ∧ (∀ j, ir j → nmC (rmV V' i) j 65 = nmC V j 65) ∧ (f1 (rmV V' i) i 0 = 0 ∧ f1 (rmV V' i) i 1 = 0 ∧ ∀ x, x < 4234 → pv (rmV V' i) i x = 0) := by
  obtain ⟨a1, a2, a3, a4, a5, a6, a7, a8⟩ := id h
  have hh := ir_home hi
  have epv : ∀ j, ir j → ∀ x, x < 4234 → pv V' j x = if j = i then 0 else pv V j x := fun j hj x hx => by
    rw [hz.pvs a1 hN1 hi cX_cl hj x hx]
    by_cases c : j = i
    · rw [if_pos ⟨c, cX_all⟩, if_pos c]
    · rw [if_neg (fun z => c z.1), if_neg c]
  have pw' : PW N V' := hz.pw a1 hN1 hN hi cX_cl
  have eb0 : ∀ a, a < 32 → ub (rmV V' i (homeM i)) (startM i + a) = 0 := fun a ha => by
    rw [rm_ub hi hi ha, if_pos rfl]
  have ebj : ∀ j, ir j → j ≠ i → ∀ a, a < 32 → ub (rmV V' i (homeM j)) (startM j + a) = ub (V (homeM j)) (startM j + a) := fun j hj hne a ha => by
    rw [rm_ub hi hj ha, if_neg hne]
    unfold ub
    rw [hz.ino a1 hN1 hi hj ha (Or.inl hne)]
  have epw : ∀ j, ir j → ∀ x, x < 4234 → pv (rmV V' i) j x = pv V' j x := fun j hj => pv_eq (fun y hy h0 => by
    by_cases c : y < 10
    · rw [ph_0 c]
      have e1 : ∀ U : Nat → Rw, n2 (U (homeM j)) (po j y) = pv U j y := fun U => by
        rw [pv_at hy, ph_0 c, if_neg (homeM_ne j)]
      rw [e1 V', epv j hj y hy, e1, pv_10 c]
      by_cases e : j = i
      · rw [if_pos e, e]
        have q1 := eb0 (12 + 2 * y) (by omega)
        have q2 := eb0 (12 + 2 * y + 1) (by omega)
        unfold n2
        rw [q1, show startM i + (12 + 2 * y) + 1 = startM i + (12 + 2 * y + 1) by omega, q2]
      · rw [if_neg e, pv_10 c]
        have q1 := ebj j hj e (12 + 2 * y) (by omega)
        have q2 := ebj j hj e (12 + 2 * y + 1) (by omega)
        unfold n2
        rw [q1, show startM j + (12 + 2 * y) + 1 = startM j + (12 + 2 * y + 1) by omega, q2]
    · have hb := pw'.2.1 j (hx y) hj (by have := hx_lt hy; omega)
      rw [← ph_hx (by omega) hy] at hb
      rcases hb with q | q
      · exact absurd q h0
      · rw [rm_x (by omega) (by omega)])
  have ep : ∀ j, ir j → ∀ x, x < 4234 → pv (rmV V' i) j x = if j = i then 0 else pv V j x := fun j hj x hx => by
    rw [epw j hj x hx, epv j hj x hx]
  have f0 : f1 (rmV V' i) i 0 = 0 := eb0 0 (by decide)
  have f01 : f1 (rmV V' i) i 1 = 0 := eb0 1 (by decide)
  have ek : ∀ j, ir j → j ≠ i → f1 (rmV V' i) j 0 = f1 V j 0 := fun j hj hne => ebj j hj hne 0 (by decide)
  have U := WFs.upd (W := rmV V' i) h hi (pw'.cg (fun j x hj hx => epw j hj x hx) (rm_x (by omega) (by decide)))
    (fun j hj hne a ha => ebj j hj hne a (by omega)) (fun j hj hne x hx => by rw [ep j hj x hx, if_neg hne])
    (fun d q hd hne hk hq h0 => by
      have hb := (a1.2.1 d (px q) hd (px_lt hq)).resolve_left h0
      rw [rm_x (by omega) (by omega)]
      exact hz.blk a1 hN1 hi hd (px_lt hq) h0 (fun z => hne z.1))
    (fun k hk => by
      have := hi.1
      have := hi.2
      rw [rm_44 hi, bt_bs (by omega) hk, hz.x44 a1 hN1 hi, a4 k hk]
      by_cases c : k = i - 1
      · rw [if_pos c]
        have e : k + 1 = i := by omega
        rw [e, f0, if_neg (show ¬ (k < 64 ∧ (0 : Nat) ≠ 0) from fun z => z.2 rfl)]
        rfl
      · rw [if_neg c]
        by_cases c2 : k < 64
        · rw [ek (k + 1) ⟨by omega, by omega⟩ (by omega)]
        · rw [if_neg (fun z => c2 z.1), if_neg (fun z => c2 z.1)])
    (by rw [f0]; decide)
    ⟨by rw [sz_0 eb0]; decide, fun q _ q2 => by rw [ep i hi _ (px_lt q2), if_pos rfl]⟩
    (fun _ => eb0) (fun z => by rw [f0] at z; cases z) (fun z => by rw [f0] at z; cases z) (fun e => absurd e hi1) (Or.inr hn)
    (fun j hj => by
      unfold ctM
      rw [if_neg (fun z => by rw [f0] at z; cases z.2)]
      by_cases c : 1 ≤ i ∧ f1 V i 0 = 2
      · rw [if_pos c, nmD_0 hj.1 (hs c.2)]
      · rw [if_neg c])
  obtain ⟨u1, u2, u3, u4⟩ := U
  refine ⟨WFs.owe u1 (fun j hj => ?_), fun j hj hne => ?_, u3, u4, f0, f01, fun x hx => by rw [ep i hi x hx, if_pos rfl]⟩
  · by_cases c : j = i
    · rw [if_pos c, if_pos c, f01, c]
      have e := a8 i hi
      rw [hn, if_neg hi1] at e
      omega
    · rw [if_neg c, if_neg c]
      omega
  · obtain ⟨q1, q2, q3⟩ := u2 j hj hne
    exact ⟨q1, q2, q3, fun x hx => by rw [ep j hj x hx, if_neg hne]⟩
/-- a file loses blocks -/
theorem WFs.cut (h : WFs N V ow) (hN1 : 61 ≤ N) (hN : N ≤ 1024) (hi : ir i) (hk : f1 V i 0 = 1) (hcl : clX X) (hz : ZS N m V tk (FSx V i X) (ZSx V i X) m' V' tk') : WFs N V' ow ∧ (∀ j, ir j → f1 V' j 0 = f1 V j 0 ∧ f1 V' j 1 = f1 V j 1 ∧ szM V' j = szM V j) ∧ (∀ d s, ir d → f1 V d 0 = 2 → s < szM V d / 16 → sln V' d s = sln V d s) ∧ (∀ j, ir j → nmC V' j 65 = nmC V j 65) := by
  obtain ⟨a1, a2, a3, a4, a5, a6, a7, a8⟩ := id h
  have epv : ∀ j, ir j → ∀ x, x < 4234 → pv V' j x = @ite _ (j = i ∧ X x) (Classical.propDecidable _) 0 (pv V j x) := fun j hj x hx => hz.pvs a1 hN1 hi hcl hj x hx
  have eb : ∀ j, ir j → ∀ a, a < 12 → ub (V' (homeM j)) (startM j + a) = ub (V (homeM j)) (startM j + a) := fun j hj a ha => by
    unfold ub
    rw [hz.ino a1 hN1 hi hj (by omega) (Or.inr ha)]
  have ek : ∀ j, ir j → f1 V' j 0 = f1 V j 0 := fun j hj => eb j hj 0 (by decide)
  have es : ∀ j, ir j → szM V' j = szM V j := fun j hj => sz_c (fun b b1 b2 => eb j hj b (by omega))
  have k1 : f1 V' i 0 = 1 := by rw [ek i hi, hk]
  have U := WFs.upd (W := V') h hi (hz.pw a1 hN1 hN hi hcl) (fun j hj _ a ha => eb j hj a ha) (fun j hj hne x hx => by rw [epv j hj x hx, if_neg (fun z => hne z.1)])
    (fun d q hd hne hk hq h0 => hz.blk a1 hN1 hi hd (px_lt hq) h0 (fun z => hne z.1))
    (fun k hk => by
      rw [hz.x44 a1 hN1 hi, a4 k hk]
      by_cases c2 : k < 64
      · rw [ek (k + 1) ⟨by omega, by omega⟩]
      · rw [if_neg (fun z => c2 z.1), if_neg (fun z => c2 z.1)])
    (by rw [k1]; decide)
    ⟨by rw [es i hi]; exact (a2 i hi).2.1, fun q q1 q2 => by
      rw [es i hi] at q1
      rw [epv i hi _ (px_lt q2), (a2 i hi).2.2 q q1 q2]
      split
      · rfl
      · rfl⟩
    (fun z => by rw [k1] at z; cases z) (fun z => by rw [k1] at z; cases z) (fun z => by rw [k1] at z; cases z) (fun e => by
      rw [e] at hk
      rw [a7] at hk
      cases hk) (Or.inl (by rw [k1]; decide))
    (fun j hj => by
      unfold ctM
      rw [k1, hk, if_neg (fun z => by cases z.2), if_neg (fun z => by cases z.2)])
  obtain ⟨u1, u2, u3, u4⟩ := U
  refine ⟨WFs.owe u1 (fun j hj => ?_), fun j hj => ⟨ek j hj, eb j hj 1 (by decide), es j hj⟩, fun d s hd hk2 hs => u3 d s hd (fun e => by rw [e, hk] at hk2; cases hk2) hk2 hs, u4⟩
  have e1 : f1 V' i 1 = f1 V i 1 := eb i hi 1 (by decide)
  rw [e1]
  split
  · omega
  · omega
end PWR
