/-! ===== the reference's methods as functions ===== -/
section DRA
/-- what is seen last is hidden -/
def hid (a : Int32) (s : Value) (R : RfT) : RfT := setSr (setS R 42 a) s
def RW (E : gE) (f : Nat → va_E) (R : RfT) : Prop := ∃ a s, RfV E f (setSr (setS R 42 a) s)
theorem hid_S {a v : Int32} {s : Value} {R : RfT} {j : Nat} (h : j ≠ 42) : setS (hid a s R) j v = hid a s (setS R j v) := by
  show setSr (setS (setS R 42 a) j v) s = setSr (setS (setS R j v) 42 a) s
  rw [setS_c (Ne.symm h)]
def ptR {α : Type} (R : RfT) (j : Nat) (v : Int32) (k : RfT → Option α) : Option α := k (setS R j v)
theorem ptR_s {α : Type} {R : RfT} {j : Nat} {v : Int32} {k : RfT → Option α} {r : α} (h : ptR R j v k = some r) : ∃ R2, R2 = setS R j v ∧ k R2 = some r := ⟨_, rfl, h⟩
def ptRZ {α : Type} (R : RfT) (j : Nat) (v : Int32) (k : RfT → Option α) : Option α := if v = 0 ∨ v = 1 then k (setS R j v) else none
theorem ptRZ_s {α : Type} {R : RfT} {j : Nat} {v : Int32} {k : RfT → Option α} {r : α} (h : ptRZ R j v k = some r) : ∃ R2, (v = 0 ∨ v = 1) ∧ R2 = setS R j v ∧ k R2 = some r := by
  unfold ptRZ at h
  split at h
  · next q => exact ⟨_, q, rfl, h⟩
  · cases h
theorem fit_z {v : Int32} (h : v = 0 ∨ v = 1) : fits .boolean (.int v) = true := by
  rcases h with rfl | rfl <;> rfl
def ptTl {α : Type} (R : RfT) (v : Int64) (k : RfT → Option α) : Option α := k (setTl R v)
theorem ptTl_s {α : Type} {R : RfT} {v : Int64} {k : RfT → Option α} {r : α} (h : ptTl R v k = some r) : ∃ R2, R2 = setTl R v ∧ k R2 = some r := ⟨_, rfl, h⟩
def stR {α : Type} (R : RfT) (j n : Nat) (i x : Int32) (k : RfT → Option α) : Option α := if i < 0 ∨ n ≤ i.toNatClampNeg then none else k (setA R j (upd (rA R j) i.toNatClampNeg x))
theorem stR_s {α : Type} {R : RfT} {j n : Nat} {i x : Int32} {k : RfT → Option α} {r : α} (h : stR R j n i x k = some r) : ∃ R2, vp_in i n ∧ R2 = setA R j (upd (rA R j) i.toNatClampNeg x) ∧ k R2 = some r := by
  unfold stR at h
  split at h
  · cases h
  · next q => exact ⟨_, q, rfl, h⟩
theorem G.rpW {E : gE} {K : gM} {cc : ByteArray} {Q : gU} {f : Nat → va_E} {pc : Nat} {lv : List (Nat × Value)} {st : List Value} {R R8 : RfT} {a : Int32} {s : Value} (r : RfV E f (setSr (setS R 42 a) s)) (hE : 94 ≤ gN E) (j : Nat) {v : Int32} {idx : Nat} (e8 : R8 = setS R j v) (h42 : j ≠ 42) (hset : (mfs E (setSr (setS R 42 a) s)).set j (.int v) = mfs E (setS (setSr (setS R 42 a) s) j v)) (hj : j < 61) (hfin : (TX12 j).2.2.2 = false) (hn : narrow (tyX12 j) (.int v) = .int v) (hfit : fits (tyX12 j) (.int v) = true) (d : decode cc pc = .ok (.putfield idx, 3)) (hw : Cond.fieldLink K.2.1.cls idx (TX12 j).1 (TX12 j).2.1 (TX12 j).2.2.1 ∈ TB) (kk : ∀ g, RfV E g (setSr (setS R8 42 a) s) → Fr RfK f g → G E K cc Q (pc + 3) lv st g) : G E K cc Q pc lv (.int v :: .ref (gAd E 56) :: st) f := by
  subst e8
  exact G.rp r hE j _ hset rfl hj hfin hn hfit d hw (fun g q => kk g (q.cast (hid_S h42)))
theorem G.rpTl {E : gE} {K : gM} {cc : ByteArray} {Q : gU} {f : Nat → va_E} {pc : Nat} {lv : List (Nat × Value)} {st : List Value} {R R8 : RfT} {a : Int32} {s : Value} (r : RfV E f (setSr (setS R 42 a) s)) (hE : 94 ≤ gN E) (j : Nat) {v : Int64} {idx : Nat} (e8 : R8 = setTl R v) (hset : (mfs E (setSr (setS R 42 a) s)).set j (.long v) = mfs E (setTl (setSr (setS R 42 a) s) v)) (hj : j < 61) (hfin : (TX12 j).2.2.2 = false) (hn : narrow (tyX12 j) (.long v) = .long v) (hfit : fits (tyX12 j) (.long v) = true) (d : decode cc pc = .ok (.putfield idx, 3)) (hw : Cond.fieldLink K.2.1.cls idx (TX12 j).1 (TX12 j).2.1 (TX12 j).2.2.1 ∈ TB) (kk : ∀ g, RfV E g (setSr (setS R8 42 a) s) → Fr RfK f g → G E K cc Q (pc + 3) lv st g) : G E K cc Q pc lv (.long v :: .ref (gAd E 56) :: st) f := by
  subst e8
  exact G.rp r hE j _ hset rfl hj hfin hn hfit d hw (fun g q => kk g q)
variable {a : Int32} {s : Value} {R : RfT}
theorem hid_Nk : rNk (hid a s R) = hid a s (rNk R) := hid_S (R := setA (setA (setA R 35 (flt (rA R 35) 0 1024 0)) 52 (flt (rA R 52) 0 65 0)) 53 (flt (rA R 53) 0 32 0)) (by decide)
theorem hid_NoW {n : Nat} : rNoW (hid a s R) n = hid a s (rNoW R n) := hid_S (R := setA R 36 (nwA (rA R 36) (rA R 30) n)) (by decide)
theorem hid_Fl0 : rFl0 (hid a s R) = hid a s (rFl0 R) := by
  unfold rFl0
  rw [hid_S (by decide), hid_S (by decide), hid_S (by decide), hid_S (by decide), hid_S (by decide), hid_S (by decide)]
theorem hid_Fl1 {n : Nat} : rFl1 (hid a s R) n = hid a s (rFl1 R n) := by
  unfold rFl1
  rw [hid_Fl0, hid_NoW]
  rfl
theorem hid_Fl {n : Nat} : rFl (hid a s R) n = hid a s (rFl R n) := by
  unfold rFl
  rw [hid_Fl1, hid_Nk]
theorem hid_No {n : Nat} : rNo (hid a s R) n = hid a s (rNo R n) := by
  unfold rNo
  rw [show rS (hid a s R) 11 = rS R 11 from rfl]
  split
  · rfl
  · exact hid_Fl
theorem hid_St : rSt (hid a s R) = hid a s (rSt R) := by
  unfold rSt
  exact hid_S (by decide)
theorem hid_Pop {wf b : Nat} {q : Bool} : rPop (hid a s R) wf b q = hid a s (rPop R wf b q) := by
  unfold rPop
  cases q
  · exact (congrArg (fun X => setS X 10 (nI 255)) (hid_S (R := setA R 6 (va_cpy (rA R 8) (rA R 6) (128 * wf) (128 * b) 128)) (by decide))).trans (hid_S (by decide))
  · exact (congrArg (fun X => setS X 10 (nI 255)) (hid_S (R := setA (setA R 6 (va_cpy (rA R 8) (rA R 6) (128 * wf) (128 * b) 128)) 40 (upd (rA R 40) b (-1))) (by decide))).trans (hid_S (by decide))
theorem hid_Push {wf w t q : Nat} : rPush (hid a s R) wf w t q = hid a s (rPush R wf w t q) := by
  unfold rPush
  exact hid_S (R := setA (setA (setA R 7 (upd (rA R 7) ((wf + w) % 256) (nI t))) 8 (va_cpy (rA R 17) (rA R 8) (128 * q) (128 * ((wf + w) % 256)) 128)) 40 (upd (rA R 40) t (nI ((wf + w) % 256)))) (by decide)
theorem hid_Wrt {wf w b t q : Nat} : rWrt (hid a s R) wf w b t q = hid a s (rWrt R wf w b t q) := by
  unfold rWrt
  rw [hid_St, show rS (hid a s R) 13 = rS R 13 from rfl, hid_S (by decide), show rA (hid a s R) 40 = rA R 40 from rfl]
  split
  · rw [hid_Pop, hid_Push]
  · exact hid_Push
theorem hid_Wr {k : Nat} : rWr (hid a s R) k = hid a s (rWr R k) := hid_Wrt
theorem hid_Lv {hd k b b2 : Nat} : rLv (hid a s R) hd k b b2 = hid a s (rLv R hd k b b2) := by
  unfold rLv
  rw [hid_S (by decide)]
  split <;> rfl
theorem hid_Le {k : Nat} : rLe (hid a s R) k = hid a s (rLe R k) := hid_Lv
theorem hid_Hn {k t j x : Nat} : rHn (hid a s R) k t j x = hid a s (rHn R k t j x) := rfl
theorem hid_Can : rCan (hid a s R) = rCan R := rfl
theorem hid_Hand {j x t : Nat} : rHand (hid a s R) j x t = hid a s (rHand R j x t) := by
  unfold rHand
  by_cases c : rCan R
  · rw [if_pos (show rCan (hid a s R) from c), if_pos c, show rS (hid a s R) 11 = rS R 11 from rfl, show rA (hid a s R) 39 = rA R 39 from rfl, show nH (hid a s R) = nH R from rfl, show rS (hid a s R) 2 = rS R 2 from rfl, show rLW (hid a s R) = rLW R from rfl, show rS (hid a s R) 20 = rS R 20 from rfl, hid_Wr, hid_S (by decide), hid_Le, hid_S (by decide), hid_S (by decide)]
    split
    · rfl
    · split
      · split <;> exact hid_Hn
      · exact hid_Hn
  · rw [if_neg (show ¬ rCan (hid a s R) from c), if_neg c, show rS (hid a s R) 11 = rS R 11 from rfl, show rA (hid a s R) 39 = rA R 39 from rfl, show nH (hid a s R) = nH R from rfl, show rS (hid a s R) 2 = rS R 2 from rfl, show nK (hid a s R) = nK R from rfl, hid_S (by decide)]
    split
    · rfl
    · split
      · split
        · exact hid_Fl
        · exact hid_Hn
      · exact hid_Hn
theorem hid_SeL : ∀ (d : Nat) (R : RfT), rSeL d (hid a s R) = hid a s (rSeL d R)
  | 0, _ => rfl
  | d + 1, R => by
    unfold rSeL
    by_cases c : rCan R
    · rw [if_pos (show rCan (hid a s R) from c), if_pos c, show rS (hid a s R) 11 = rS R 11 from rfl, show rA (hid a s R) 15 = rA R 15 from rfl, show nH (hid a s R) = nH R from rfl, hid_Wr, hid_Le, hid_SeL d]
      split <;> rfl
    · rw [if_neg (show ¬ rCan (hid a s R) from c), if_neg c, show rS (hid a s R) 11 = rS R 11 from rfl, show nK (hid a s R) = nK R from rfl, hid_Fl]
      split <;> rfl
theorem hid_Syn {wf w : Nat} : rSyn (hid a s R) wf w = hid a s (rSyn R wf w) := by
  unfold rSyn rSy
  rw [hid_St, show rS (hid a s R) 14 = rS R 14 from rfl, hid_S (by decide)]
  exact hid_S (R := setA (setA (setS (rSt R) 14 (rS R 14 + 1)) 6 (sy6 (rA R 8) (rA R 7) (rA R 6) wf w)) 40 (sy40 (rA R 7) (rA R 40) wf w)) (by decide)
theorem hid_Sett : rSett (hid a s R) = hid a s (rSett R) := by
  unfold rSett
  rw [show nH (hid a s R) = nH R from rfl, hid_SeL, hid_Syn, hid_No]
  by_cases c : rCan (rSeL (nH R) R)
  · rw [if_pos (show rCan (hid a s (rSeL (nH R) R)) from c), if_pos c]
    rfl
  · rw [if_neg (show ¬ rCan (hid a s (rSeL (nH R) R)) from c), if_neg c]
    rfl
theorem hid_Ok {B : Nat} (h : rOk R B) : rOk (hid a s R) B := h
end DRA
