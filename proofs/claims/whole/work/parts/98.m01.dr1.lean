/-! ===== the reference's hardware as functions ===== -/
section DRB
variable {E : gE} {f : Nat → va_E} {R : RfT}
theorem RW.of {g : Nat → va_E} {a : Int32} {s : Value} (h : RfV E g (hid a s R)) : RW E g R := ⟨a, s, h⟩
theorem rDb_n {wf w B hd : Nat} (h : rDb R wf w B hd) : nF R = wf ∧ nW R = w ∧ nH R = hd := by
  obtain ⟨⟨a1, a2, a3, a4⟩, -, -, -, ⟨-, -, e3, e4, e5⟩, -, -⟩ := h
  exact ⟨by unfold nF; rw [a1, nI_clamp (by omega)], by unfold nW; rw [a3, nI_clamp (by omega)], by unfold nH; rw [e4, nI_clamp (by omega)]⟩
theorem rWk_n {n : Nat} (h : rWk R n) : nK R = n := by
  unfold nK
  rw [h.2.1, nI_clamp (by have := h.1; omega)]
noncomputable def e_settle (R : RfT) : Option RfT := gd (∃ B, rOk R B) (some (rSett R))
theorem k_X12_settle (E : gE) (f : Nat → va_E) (hE : 94 ≤ gN E) (R : RfT) (w : RW E f R) (R9 : RfT) (hr : e_settle R = some R9) : Ct E 6 yX12_settle cX12_settle 2 none [.ref (gAd E (56))] f (fun v g => v = none ∧ RW E g R9 ∧ Fr RfK f g, fun _ _ => False) := by
  obtain ⟨a0, s0, r0⟩ := w
  obtain ⟨⟨B, hok⟩, hr⟩ := gd_s hr
  cases hr
  refine (c_X12_settle E f (hid a0 s0 R) B (hid_Ok hok) hE r0).mono (fun v g q => ?_) (fun _ _ q => q)
  obtain ⟨q1, q2, q3⟩ := q
  rw [hid_Sett] at q2
  exact ⟨q1, RW.of q2, q3⟩
noncomputable def e_hand_79 (R : RfT) (b x : Int32) : Option RfT := gd ((∃ B, rOk R B) ∧ vp_in b 1024 ∧ x = nI 0) (some (rHand R 44 0 b.toNatClampNeg))
theorem k_X12_hand_79 (E : gE) (f : Nat → va_E) (hE : 94 ≤ gN E) (R : RfT) (w : RW E f R) (b x : Int32) (R9 : RfT) (hr : e_hand_79 R b x = some R9) : Ct E 5 yX12_hand cX12_hand 7 none [.ref (gAd E (56)), .int b, .ref (gAd E (79)), .int x] f (fun v g => v = none ∧ RW E g R9 ∧ Fr RfK f g, fun _ _ => False) := by
  obtain ⟨a0, s0, r0⟩ := w
  obtain ⟨⟨⟨B, wf, w, hd, n, h1, h2⟩, hb, hx⟩, hr2⟩ := gd_s hr
  subst hx
  cases hr2
  obtain ⟨hb, e⟩ := vp_nI hb
  rw [show (Value.int b) = .int (nI b.toNatClampNeg) from congrArg _ e]
  refine (c_X12_hand_out E f (hid a0 s0 R) wf w B hd n h1 h2 hE r0 _ hb h1.2.2.2.1.2.2.2).mono (fun v g q => ?_) (fun _ _ q => q)
  obtain ⟨q1, q2, q3⟩ := q
  rw [hid_Hand] at q2
  exact ⟨q1, RW.of q2, q3⟩
noncomputable def e_hand_65 (R : RfT) (b x : Int32) : Option RfT := gd ((∃ B, rOk R B) ∧ vp_in b 1024 ∧ ¬ x < 0 ∧ x.toNatClampNeg + 128 ≤ 5120 ∧ Byt (rA R 24)) (some (rHand R 24 x.toNatClampNeg b.toNatClampNeg))
theorem k_X12_hand_65 (E : gE) (f : Nat → va_E) (hE : 94 ≤ gN E) (R : RfT) (w : RW E f R) (b x : Int32) (R9 : RfT) (hr : e_hand_65 R b x = some R9) : Ct E 5 yX12_hand cX12_hand 7 none [.ref (gAd E (56)), .int b, .ref (gAd E (65)), .int x] f (fun v g => v = none ∧ RW E g R9 ∧ Fr RfK f g, fun _ _ => False) := by
  obtain ⟨a0, s0, r0⟩ := w
  obtain ⟨⟨⟨B, wf, w, hd, n, h1, h2⟩, hb, x0, hx, hby⟩, hr⟩ := gd_s hr
  cases hr
  obtain ⟨hb, e⟩ := vp_nI hb
  rw [show (Value.int b) = .int (nI b.toNatClampNeg) from congrArg _ e, show (Value.int x) = .int (nI x.toNatClampNeg) from congrArg _ (nI_cl x0)]
  refine (c_X12_hand_logValue E f (hid a0 s0 R) wf w B hd n h1 h2 hE r0 _ _ hb hby hx).mono (fun v g q => ?_) (fun _ _ q => q)
  obtain ⟨q1, q2, q3⟩ := q
  rw [hid_Hand] at q2
  exact ⟨q1, RW.of q2, q3⟩
noncomputable def e_hand_81 (R : RfT) (b x : Int32) : Option RfT := gd ((∃ B, rOk R B) ∧ vp_in b 1024 ∧ ¬ x < 0 ∧ x.toNatClampNeg + 128 ≤ 5120 ∧ Byt (rA R 46)) (some (rHand R 46 x.toNatClampNeg b.toNatClampNeg))
theorem k_X12_hand_81 (E : gE) (f : Nat → va_E) (hE : 94 ≤ gN E) (R : RfT) (w : RW E f R) (b x : Int32) (R9 : RfT) (hr : e_hand_81 R b x = some R9) : Ct E 5 yX12_hand cX12_hand 7 none [.ref (gAd E (56)), .int b, .ref (gAd E (81)), .int x] f (fun v g => v = none ∧ RW E g R9 ∧ Fr RfK f g, fun _ _ => False) := by
  obtain ⟨a0, s0, r0⟩ := w
  obtain ⟨⟨⟨B, wf, w, hd, n, h1, h2⟩, hb, x0, hx, hby⟩, hr⟩ := gd_s hr
  cases hr
  obtain ⟨hb, e⟩ := vp_nI hb
  rw [show (Value.int b) = .int (nI b.toNatClampNeg) from congrArg _ e, show (Value.int x) = .int (nI x.toNatClampNeg) from congrArg _ (nI_cl x0)]
  refine (c_X12_hand_batchValue E f (hid a0 s0 R) wf w B hd n h1 h2 hE r0 _ _ hb hby hx).mono (fun v g q => ?_) (fun _ _ q => q)
  obtain ⟨q1, q2, q3⟩ := q
  rw [hid_Hand] at q2
  exact ⟨q1, RW.of q2, q3⟩
noncomputable def e_syncDisk (R : RfT) : Option RfT := gd (∃ B, rOk R B) (some (@ite _ (rCan R) (Classical.propDecidable _) (rSyn R (nF R) (nW R)) (rNo R (nK R))))
theorem k_X12_syncDisk (E : gE) (f : Nat → va_E) (hE : 94 ≤ gN E) (R : RfT) (w : RW E f R) (R9 : RfT) (hr : e_syncDisk R = some R9) : Ct E 4 yX12_syncDisk cX12_syncDisk 3 none [.ref (gAd E (56))] f (fun v g => v = none ∧ RW E g R9 ∧ Fr RfK f g, fun _ _ => False) := by
  obtain ⟨a0, s0, r0⟩ := w
  obtain ⟨⟨B, wf, w, hd, n, h1, h2⟩, hr⟩ := gd_s hr
  cases hr
  obtain ⟨e1, e2, e3⟩ := rDb_n h1
  have e4 := rWk_n h2
  refine (c_X12_syncDisk E f (hid a0 s0 R) wf w B hd n h1 h2 hE r0).mono (fun v g q => ?_) (fun _ _ q => q)
  rcases q with ⟨c, q1, q2, q3⟩ | ⟨c, q1, q2, q3⟩
  · rw [hid_No] at q2
    rw [if_neg (show ¬ rCan R from c), e4]
    exact ⟨q1, RW.of q2, q3⟩
  · rw [hid_Syn] at q2
    rw [if_pos (show rCan R from c), e1, e2]
    exact ⟨q1, RW.of q2, q3⟩
noncomputable def e_writeDisk_63 (R : RfT) (b x : Int32) : Option RfT := gd ((∃ B, rOk R B) ∧ vp_in b 1024 ∧ ∃ q, q < 64 ∧ x = nI (128 * q)) (some (@ite _ (rCan R) (Classical.propDecidable _) (rWrt R (nF R) (nW R) (rA R 7 (nF R)).toNatClampNeg b.toNatClampNeg (x.toNatClampNeg / 128)) (rNo R (nK R))))
theorem k_X12_writeDisk_63 (E : gE) (f : Nat → va_E) (hE : 94 ≤ gN E) (R : RfT) (w : RW E f R) (b x : Int32) (R9 : RfT) (hr : e_writeDisk_63 R b x = some R9) : Ct E 4 yX12_writeDisk cX12_writeDisk 5 none [.ref (gAd E (56)), .int b, .ref (gAd E (63)), .int x] f (fun v g => v = none ∧ RW E g R9 ∧ Fr RfK f g, fun _ _ => False) := by
  obtain ⟨a0, s0, r0⟩ := w
  obtain ⟨⟨⟨B, wf, w, hd, n, h1, h2⟩, hb, q, hq, rfl⟩, hr⟩ := gd_s hr
  cases hr
  obtain ⟨hb, e⟩ := vp_nI hb
  rw [show (Value.int b) = .int (nI b.toNatClampNeg) from congrArg _ e]
  obtain ⟨e1, e2, e3⟩ := rDb_n h1
  have e4 := rWk_n h2
  obtain ⟨t, ht, et⟩ := h1.2.1 wf h1.1.2.1
  rw [nI_clamp (by omega), show 128 * q / 128 = q by omega, e1, e2, e4, et, nI_clamp (by omega)]
  refine (c_X12_writeDisk E f (hid a0 s0 R) wf w B hd n h1 h2 hE r0 t _ q ht et hb hq).mono (fun v g q => ?_) (fun _ _ q => q)
  rcases q with ⟨c, q1, q2, q3⟩ | ⟨c, q1, q2, q3⟩
  · rw [hid_No] at q2
    rw [if_neg (show ¬ rCan R from c)]
    exact ⟨q1, RW.of q2, q3⟩
  · rw [hid_Wrt] at q2
    rw [if_pos (show rCan R from c)]
    exact ⟨q1, RW.of q2, q3⟩
noncomputable def e_leave (R : RfT) (i : Int32) : Option RfT := gd ((∃ B, rOk R B) ∧ vp_in i (nH R)) (some (rLe R i.toNatClampNeg))
theorem k_X12_leave (E : gE) (f : Nat → va_E) (hE : 94 ≤ gN E) (R : RfT) (w : RW E f R) (i : Int32) (R9 : RfT) (hr : e_leave R i = some R9) : Ct E 2 yX12_leave cX12_leave 2 none [.ref (gAd E (56)), .int i] f (fun v g => v = none ∧ RW E g R9 ∧ Fr RfK f g, fun _ _ => False) := by
  obtain ⟨a0, s0, r0⟩ := w
  obtain ⟨⟨⟨B, wf, w, hd, n, h1, h2⟩, hi⟩, hr⟩ := gd_s hr
  cases hr
  obtain ⟨hi, e⟩ := vp_nI hi
  rw [show (Value.int i) = .int (nI i.toNatClampNeg) from congrArg _ e]
  obtain ⟨e1, e2, e3⟩ := rDb_n h1
  generalize i.toNatClampNeg = k at hi
  have hd64 : hd ≤ 64 := by
    obtain ⟨-, -, -, -, ⟨-, -, x3, -, x5⟩, -, -⟩ := id h1
    omega
  rw [e3] at hi
  obtain ⟨t, ht, et⟩ := h1.2.2.2.2.2.1 k (by omega)
  obtain ⟨u, hu, eu⟩ := h1.2.2.2.2.2.1 (hd - 1) (by omega)
  have el : rLe R k = rLv R hd k t u := by
    unfold rLe nBl
    rw [e3, et, eu, nI_clamp (by omega), nI_clamp (by omega)]
  rw [el]
  refine (c_X12_leave E f (hid a0 s0 R) wf w B hd h1 hE r0 k t u hi et ht eu hu).mono (fun v g q => ?_) (fun _ _ q => q)
  obtain ⟨q1, q2, q3⟩ := q
  rw [hid_Lv] at q2
  exact ⟨q1, RW.of q2, q3⟩
end DRB
