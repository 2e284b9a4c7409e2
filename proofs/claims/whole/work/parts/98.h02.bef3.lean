/-- what a row's key holds -/
def RwAt (E : gE) (f : Nat → va_E) (k : Nat) (y : Rw) : Prop := k < gN E ∧ ∃ x, f k = oB (gDA E) 128 x ∧ Byt x ∧ nr x = y
theorem r_before (E : gE) (f : Nat → va_E) (N B gr : Nat) (C : CfT) (hz : CfZ E N B gr) (h : CfV E f N B gr C) (hw : Hw) (on : Int32) (hh : HwR N B on hw C) (L : List En) (tu : Int32) (hl : LgR N C L tu) (hld : LgD hw L) (qs : List QC) (en : Nat → Nat) (hq : QeR N gr C qs en) (hby : ∀ r, r < gr * 40 → Byt (cR C 4 r)) (b : Nat) (hb : b < N) : Ct E 1 yX10_before cX10_before 3 (some (.array .byte)) [.ref (gAd E (25)), .int (nI b)] f (fun v g => ∃ k, v = some (.ref (gAd E k)) ∧ BeK N B gr k ∧ RwAt E g k (befV hw L qs b) ∧ CfV E g N B gr C ∧ Fr CfK f g, fun _ _ => False) := by
  obtain ⟨z1, z2, z3, z4, z5, z6, z7⟩ := id hz
  obtain ⟨y3, y1, y0⟩ := hh.by
  have hen := hq.lg (i := qs.length) (Nat.le_refl _)
  unfold befV
  rcases hq.2.2.2.2.2 b hb with ⟨e20, v20⟩ | ⟨r, hr, e20, v20⟩
  · rw [v20]
    rcases (hl.2.2.2.2.1 b hb).val with ⟨e16, v16⟩ | ⟨k, hk, e16, v16⟩
    · rw [v16]
      rcases hh.sl hb with ⟨e10, v10⟩ | ⟨s, hs, e10, v10⟩
      · have ev : hSee hw b = aRd hw.1 b := hSee_n v10
        rcases hh.la z2 hb with ⟨e6, v6⟩ | ⟨s, hs, e6, v6⟩
        · refine (k_befD E f N B gr C hz h b hb e20 e16 e10 e6).mono (fun v g q => ?_) (fun _ _ q => q)
          obtain ⟨q1, q2, q3⟩ := q
          exact ⟨_, q1, Or.inl ⟨by omega, by omega⟩, ⟨by omega, _, q2.r1 b hb, y1 b, (ev.trans v6).symm⟩, q2, q3⟩
        · refine (k_befE E f N B gr C hz h b hb e20 e16 e10 s hs e6).mono (fun v g q => ?_) (fun _ _ q => q)
          obtain ⟨q1, q2, q3⟩ := q
          exact ⟨_, q1, Or.inl ⟨by omega, by omega⟩, ⟨by omega, _, q2.r0 s hs, y0 s, (ev.trans v6).symm⟩, q2, q3⟩
      · refine (k_befC E f N B gr C hz h b hb e20 e16 s hs e10).mono (fun v g q => ?_) (fun _ _ q => q)
        obtain ⟨q1, q2, q3⟩ := q
        exact ⟨_, q1, Or.inr ⟨by omega, by omega⟩, ⟨by omega, _, q2.r3 s hs, y3 s, v10.symm⟩, q2, q3⟩
    · rw [v16]
      have h40 := hl.2.1
      obtain ⟨d1, d2, d3⟩ := hld k hk
      have e6 : cA C 6 (3 + k) = -1 := CDk.la z2 (show CDk N hw.1 (dkOf C) from hh.2.1.1) (by omega) d1.2
      have v6 : nr (cR C 1 (3 + k)) = (lAt L k).2 := by
        have e := hh.rd z2 (t := 3 + k) (by omega)
        have e2 : dRead (dkOf C) (3 + k) = cR C 1 (3 + k) := by
          show (if cA C 6 (3 + k) = -1 then cR C 1 (3 + k) else _) = _
          rw [if_pos e6]
        rw [e2] at e
        rw [e, ← d2, hSee_n d1.1]
      refine (k_befB E f N B gr C hz h b hb e20 k (by omega) e16 e6).mono (fun v g q => ?_) (fun _ _ q => q)
      obtain ⟨q1, q2, q3⟩ := q
      exact ⟨_, q1, Or.inl ⟨by omega, by omega⟩, ⟨by omega, _, q2.r1 (3 + k) (by omega), y1 _, v6⟩, q2, q3⟩
  · rw [v20]
    refine (k_befA E f N B gr C hz h b hb r (by omega) e20).mono (fun v g q => ?_) (fun _ _ q => q)
    obtain ⟨q1, q2, q3⟩ := q
    exact ⟨_, q1, Or.inr ⟨by omega, by omega⟩, ⟨by omega, _, q2.r4 r (by omega), hby r (by omega), rfl⟩, q2, q3⟩
