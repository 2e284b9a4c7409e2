section GLQ
/-- an operation that ends well where no failure is told -/
def oStd (m : oM) : Prop := ∀ s : DbS, s.2.2.1 = -1 → (m s).1 = true ∧ (m s).2.2.2.1 = -1
theorem oThen_std {m k : oM} (h1 : oStd m) (h2 : oStd k) : oStd (oThen m k) := by
  intro s hs
  obtain ⟨a, b⟩ := h1 s hs
  have e : oThen m k s = k (m s).2 := if_pos a
  rw [e]
  exact h2 _ b
theorem oPl_std {B t : Nat} {x : Nat → Int32} : oStd (oPl B t x) := by
  intro s hs
  obtain ⟨d, b, le, wr, ss⟩ := s
  have hs : le = -1 := hs
  subst hs
  have e : oPl B t x (d, b, -1, wr, ss) = (true, plD B b d t, bPlace B b t x, plL B b t (-1), plW B b t wr, ss) := if_neg (fun q => absurd q.2 (by decide))
  rw [e]
  refine ⟨rfl, ?_⟩
  show plL B b t (-1) = -1
  unfold plL
  split
  · decide
  · rfl
theorem seRun_std {B : Nat} : ∀ (n : Nat) (x : Int32) (d : DkT) (b : BfT) (wr : Int32), (seRun B n x d b (-1) wr).1 = true ∧ (seRun B n x d b (-1) wr).2.2.2.1 = -1
  | 0, x, d, b, wr => ⟨rfl, rfl⟩
  | n + 1, x, d, b, wr => by
    by_cases h : x = -1
    · have e : seRun B (n + 1) x d b (-1) wr = (true, d, b, -1, wr) := if_pos h
      rw [e]
      exact ⟨rfl, rfl⟩
    · have e : seRun B (n + 1) x d b (-1) wr = seRun B n (bNext (bDrop b (b.1 x.toNatClampNeg).toNatClampNeg).2.1 (bDrop b (b.1 x.toNatClampNeg).toNatClampNeg).2.2.1 x B) (dWrite d x.toNatClampNeg (b.2.2.2.1 (b.1 x.toNatClampNeg).toNatClampNeg)) (bDrop b (b.1 x.toNatClampNeg).toNatClampNeg) (-1) (wr + 1) := (if_neg h).trans (if_neg (by decide))
      rw [e]
      exact seRun_std n _ _ _ _
theorem oSe_std {B : Nat} : oStd (oSe B) := by
  intro s hs
  obtain ⟨d, b, le, wr, ss⟩ := s
  have hs : le = -1 := hs
  subst hs
  obtain ⟨a, c⟩ := seRun_std (B := B) b.2.2.2.2.2.1 (bNext b.2.1 b.2.2.1 (-1) B) d b wr
  have a : (seAll B d b (-1) wr).1 = true := a
  have c : (seAll B d b (-1) wr).2.2.2.1 = -1 := c
  have e : oSe B (d, b, -1, wr, ss) = (true, dSync (seAll B d b (-1) wr).2.1, (seAll B d b (-1) wr).2.2.1, (if 0 < (seAll B d b (-1) wr).2.2.2.1 then (seAll B d b (-1) wr).2.2.2.1 - 1 else (seAll B d b (-1) wr).2.2.2.1), (seAll B d b (-1) wr).2.2.2.2, ss + 1) := if_pos ⟨a, by rw [c]; decide⟩
  rw [e]
  refine ⟨rfl, ?_⟩
  show (if 0 < (seAll B d b (-1) wr).2.2.2.1 then (seAll B d b (-1) wr).2.2.2.1 - 1 else (seAll B d b (-1) wr).2.2.2.1) = -1
  rw [c]
  decide
theorem fOps_std {N B : Nat} {sc : Nat → Int32} {m : oM} (h : oStd m) : ∀ j, oStd (fOps N B sc m j)
  | 0 => h
  | j + 1 => oThen_std (fOps_std h j) oPl_std
theorem cFmt_std {N B : Nat} {z lsc : Nat → Int32} : oStd (cFmt N B z lsc) := by
  have h0 : oStd oOk := fun s hs => ⟨rfl, hs⟩
  have h1 : oStd (oSA B lsc) := fun s hs => oPl_std s hs
  exact oThen_std (oThen_std (oThen_std (fOps_std (oThen_std (oThen_std (oThen_std h0 oPl_std) oSe_std) h1) 18) oSe_std) oPl_std) oSe_std
/-- the fresh disk, buffer, log, reference -/
def d00 (N : Nat) : DkT := (fun _ => 0, flt (fun _ => 0) 0 N (-1), fun _ => 0, fun _ _ => 0, fun _ _ => 0, 0, 0)
def b00 (N : Nat) : BfT := (flt (fun _ => 0) 0 N (-1), fun _ => 0, fun _ => 0, fun _ _ => 0, 0, 0, 0)
def l00 (N : Nat) : LgT := (fun _ => 0, fun _ => 0, flt (fun _ => 0) 0 N (-1), 0, 0)
def R00 (N B gr : Nat) : RfT := (fun j => if j = 1 then nI N else if j = 2 then nI B else if j = 3 then nI gr else if j = 11 then 1 else if j = 12 then -1 else 0, 0, 0, .null, fun j => if 36 ≤ j ∧ j ≤ 40 then flt (fun _ => 0) 0 1024 (-1) else fun _ => 0, fun _ => 0)
theorem flt_in {n t : Nat} (h : t < n) : flt (fun _ => 0) 0 n (-1) t = -1 := by
  unfold flt
  rw [if_pos ⟨Nat.zero_le _, by omega⟩]
theorem rFmt_0 {R : RfT} {N : Nat} : rS (rFmt R N) 0 = (if rS (fmZ R N) 11 = 0 then 2 else 0) := by
  unfold rFmt
  generalize fmZ R N = X
  rfl
theorem byt0 : Byt (fun _ => 0) := fun _ => rfl
theorem d00_ok {N : Nat} (hN : 1 ≤ N) : dOk N (d00 N) := ⟨by decide, by decide, fun j _ => ⟨0, by omega, rfl⟩, fun _ => byt0, fun _ => byt0, fun j hj => Or.inl (flt_in hj)⟩
theorem bCnt_0 : ∀ j, bCnt (fun _ => 0) j = 0
  | 0 => rfl
  | j + 1 => by
    unfold bCnt
    rw [bCnt_0 j]
    rfl
theorem b00_ok {N B : Nat} (hN : 1 ≤ N) (h1 : 4 ≤ B) (h2 : B ≤ 64) : bOk N B (b00 N) := ⟨by omega, h2, (bCnt_0 B).symm, by decide, fun s _ => ⟨0, by omega, rfl, fun h => absurd h (show ¬ (0 : Int32) < 0 by decide)⟩, fun t ht => Or.inl (flt_in ht), fun _ => byt0, fun s _ => (show (0 : Int32) ≤ 0 by decide)⟩
theorem l00_ok {N : Nat} : lOk N (l00 N) := ⟨by decide, fun j hj => absurd hj (by omega), byt0, fun t ht => Or.inl (flt_in ht)⟩
theorem R00_ok {N B gr : Nat} (h1 : 4 ≤ B) (h2 : B ≤ 64) : rOk (R00 N B gr) B := by
  have e : ∀ t, t < 1024 → flt (fun _ => 0) 0 1024 (-1) t = -1 := fun t ht => flt_in ht
  refine ⟨0, 0, 0, 0, ?_, ⟨by decide, rfl, fun k hk => absurd hk (by omega)⟩⟩
  exact ⟨⟨rfl, by decide, rfl, by decide⟩, fun k _ => ⟨0, by decide, rfl⟩, fun t ht => Or.inl (e t ht), ⟨byt0, byt0, byt0, byt0⟩, ⟨rfl, h1, h2, rfl, by omega⟩, fun k _ => ⟨0, by decide, rfl⟩, fun t ht => Or.inl (e t ht)⟩
set_option maxRecDepth 100000 in
set_option maxHeartbeats 400000 in
theorem p_R (E : gE) (f : Nat → va_E) (N B gr : Nat) (hb : 128 ≤ N ∧ N ≤ 1024 ∧ 4 ≤ B ∧ B ≤ 64 ∧ 1 ≤ gr ∧ gr ≤ 16) (hE : gN E = 350 + 2 * N + B + gr * 40) (hf : FrV E f N B gr) : RfV E f (R00 N B gr) := by
  obtain ⟨q0, q1, q53, q54, q55, q47, q48, q49, q50, q51, q52, q2, q6, q5, rv, q7, q3, q4, rs, q8, q10, q9, rb, q11, q12, q13, q16, q14, q15, q17, q20, q21, q18, rq, q19, q22, q23, q24, q25, q30, q31, q26, rm, q27, q28, q29, q32, q33, q34, q35, q36, q37, q38, q39, q40, q41, q42, q43, q44, q46, q45, q56, q73, q74, q75, q76, q77, q57, q58, q59, q60, q61, q62, q63, q64, q65, q66, q67, q68, q69, q70, q71, q72, q78, q79, q80, q81, q82, q83, q84, q85, q86, q87, q88, q89, q90, q91, q92, q93⟩ := hf
  exact ⟨q56, q57, q58, q59, q60, q61, q62, q63, q64, q65, q66, q67, q68, q69, q70, q71, q72, q73, q74, q75, q76, q77, q78, q79, q80, q81, q82, q83, q84, q85, q86, q87, q88, q89, q90, q91, q92⟩
set_option maxRecDepth 100000 in
set_option maxHeartbeats 400000 in
theorem p_M (E : gE) (f : Nat → va_E) (N B gr : Nat) (hb : 128 ≤ N ∧ N ≤ 1024 ∧ 4 ≤ B ∧ B ≤ 64 ∧ 1 ≤ gr ∧ gr ≤ 16) (hE : gN E = 350 + 2 * N + B + gr * 40) (hf : FrV E f N B gr) : MnV E f (fun _ => 0) 0 0 := by
  obtain ⟨q0, q1, q53, q54, q55, q47, q48, q49, q50, q51, q52, q2, q6, q5, rv, q7, q3, q4, rs, q8, q10, q9, rb, q11, q12, q13, q16, q14, q15, q17, q20, q21, q18, rq, q19, q22, q23, q24, q25, q30, q31, q26, rm, q27, q28, q29, q32, q33, q34, q35, q36, q37, q38, q39, q40, q41, q42, q43, q44, q46, q45, q56, q73, q74, q75, q76, q77, q57, q58, q59, q60, q61, q62, q63, q64, q65, q66, q67, q68, q69, q70, q71, q72, q78, q79, q80, q81, q82, q83, q84, q85, q86, q87, q88, q89, q90, q91, q92, q93⟩ := hf
  exact ⟨q0, q1⟩
set_option maxRecDepth 100000 in
set_option maxHeartbeats 400000 in
theorem p_D (E : gE) (f : Nat → va_E) (N B gr : Nat) (hb : 128 ≤ N ∧ N ≤ 1024 ∧ 4 ≤ B ∧ B ≤ 64 ∧ 1 ≤ gr ∧ gr ≤ 16) (hE : gN E = 350 + 2 * N + B + gr * 40) (hf : FrV E f N B gr) : DkV E f N (d00 N) 1 (-1) 0 0 := by
  obtain ⟨q0, q1, q53, q54, q55, q47, q48, q49, q50, q51, q52, q2, q6, q5, rv, q7, q3, q4, rs, q8, q10, q9, rb, q11, q12, q13, q16, q14, q15, q17, q20, q21, q18, rq, q19, q22, q23, q24, q25, q30, q31, q26, rm, q27, q28, q29, q32, q33, q34, q35, q36, q37, q38, q39, q40, q41, q42, q43, q44, q46, q45, q56, q73, q74, q75, q76, q77, q57, q58, q59, q60, q61, q62, q63, q64, q65, q66, q67, q68, q69, q70, q71, q72, q78, q79, q80, q81, q82, q83, q84, q85, q86, q87, q88, q89, q90, q91, q92, q93⟩ := hf
  exact ⟨q2, q3, q4, q5, q6, q7, rv, rs⟩
set_option maxRecDepth 100000 in
set_option maxHeartbeats 400000 in
theorem p_B (E : gE) (f : Nat → va_E) (N B gr : Nat) (hb : 128 ≤ N ∧ N ≤ 1024 ∧ 4 ≤ B ∧ B ≤ 64 ∧ 1 ≤ gr ∧ gr ≤ 16) (hE : gN E = 350 + 2 * N + B + gr * 40) (hf : FrV E f N B gr) : BfV E f N B (b00 N) := by
  obtain ⟨q0, q1, q53, q54, q55, q47, q48, q49, q50, q51, q52, q2, q6, q5, rv, q7, q3, q4, rs, q8, q10, q9, rb, q11, q12, q13, q16, q14, q15, q17, q20, q21, q18, rq, q19, q22, q23, q24, q25, q30, q31, q26, rm, q27, q28, q29, q32, q33, q34, q35, q36, q37, q38, q39, q40, q41, q42, q43, q44, q46, q45, q56, q73, q74, q75, q76, q77, q57, q58, q59, q60, q61, q62, q63, q64, q65, q66, q67, q68, q69, q70, q71, q72, q78, q79, q80, q81, q82, q83, q84, q85, q86, q87, q88, q89, q90, q91, q92, q93⟩ := hf
  exact ⟨q8, q9, q10, q11, q12, rb⟩
set_option maxRecDepth 100000 in
set_option maxHeartbeats 400000 in
theorem p_L (E : gE) (f : Nat → va_E) (N B gr : Nat) (hb : 128 ≤ N ∧ N ≤ 1024 ∧ 4 ≤ B ∧ B ≤ 64 ∧ 1 ≤ gr ∧ gr ≤ 16) (hE : gN E = 350 + 2 * N + B + gr * 40) (hf : FrV E f N B gr) : LgV E f N (l00 N) := by
  obtain ⟨q0, q1, q53, q54, q55, q47, q48, q49, q50, q51, q52, q2, q6, q5, rv, q7, q3, q4, rs, q8, q10, q9, rb, q11, q12, q13, q16, q14, q15, q17, q20, q21, q18, rq, q19, q22, q23, q24, q25, q30, q31, q26, rm, q27, q28, q29, q32, q33, q34, q35, q36, q37, q38, q39, q40, q41, q42, q43, q44, q46, q45, q56, q73, q74, q75, q76, q77, q57, q58, q59, q60, q61, q62, q63, q64, q65, q66, q67, q68, q69, q70, q71, q72, q78, q79, q80, q81, q82, q83, q84, q85, q86, q87, q88, q89, q90, q91, q92, q93⟩ := hf
  exact ⟨q13, q14, q15, q16⟩
set_option maxRecDepth 100000 in
set_option maxHeartbeats 400000 in
theorem p_V (E : gE) (f : Nat → va_E) (N B gr : Nat) (hb : 128 ≤ N ∧ N ≤ 1024 ∧ 4 ≤ B ∧ B ≤ 64 ∧ 1 ≤ gr ∧ gr ≤ 16) (hE : gN E = 350 + 2 * N + B + gr * 40) (hf : FrV E f N B gr) : VwO E f 0 0 ∧ f 31 = oB (gDA E) 128 (fun _ => 0) ∧ f 93 = oJ (gDA E) 1 (fun _ => 0) := by
  obtain ⟨q0, q1, q53, q54, q55, q47, q48, q49, q50, q51, q52, q2, q6, q5, rv, q7, q3, q4, rs, q8, q10, q9, rb, q11, q12, q13, q16, q14, q15, q17, q20, q21, q18, rq, q19, q22, q23, q24, q25, q30, q31, q26, rm, q27, q28, q29, q32, q33, q34, q35, q36, q37, q38, q39, q40, q41, q42, q43, q44, q46, q45, q56, q73, q74, q75, q76, q77, q57, q58, q59, q60, q61, q62, q63, q64, q65, q66, q67, q68, q69, q70, q71, q72, q78, q79, q80, q81, q82, q83, q84, q85, q86, q87, q88, q89, q90, q91, q92, q93⟩ := hf
  exact ⟨q25, q31, q93⟩
end GLQ
