/-! ===== the fresh world ===== -/
section PXX28
/-- the class, the reference, the model's hardware at first -/
def C00 (N : Nat) : CfT := (fun j => if j = 208 then 1 else if j = 209 then -1 else 0, fun k => if k = 6 ∨ k = 10 ∨ k = 16 ∨ k = 20 then flt (fun _ => 0) 0 N (-1) else fun _ => 0, fun _ _ _ => 0)
def R00 (N B gr : Nat) : RfT := (fun j => if j = 1 then nI N else if j = 2 then nI B else if j = 3 then nI gr else if j = 11 then 1 else if j = 12 then -1 else 0, 0, 0, .null, fun j => if 36 ≤ j ∧ j ≤ 40 then flt (fun _ => 0) 0 1024 (-1) else fun _ => 0, fun _ => 0)
def h00 : Hw := (((fun _ => nr z0), []), ((fun _ => none), 0, 0, 0), -1, 0, 0)
def A00 : MS := (h00, [], 0, [], (fun _ => 0), (fun _ => none), (fun _ => false), false)
variable {E : gE} {f : Nat → va_E} {N B gr u : Nat}
theorem flt_in {n t : Nat} (h : t < n) : flt (fun _ => 0) 0 n (-1) t = -1 := by
  unfold flt
  rw [if_pos ⟨Nat.zero_le _, by omega⟩]
theorem byt0 : Byt (fun _ => 0) := fun _ => rfl
theorem bCnt_0 : ∀ j, bCnt (fun _ => 0) j = 0
  | 0 => rfl
  | j + 1 => by
    unfold bCnt
    rw [bCnt_0 j]
    rfl
set_option maxRecDepth 100000 in
set_option maxHeartbeats 400000 in
theorem fr_R (hf : FrV E f N B gr) : RfV E f (R00 N B gr) := by
  obtain ⟨q0, q1, q53, q54, q55, q47, q48, q49, q50, q51, q52, q2, q6, q5, rv, q7, q3, q4, rs, q8, q10, q9, rb, q11, q12, q13, q16, q14, q15, q17, q20, q21, q18, rq, q19, q22, q23, q24, q25, q30, q31, q26, rm, q27, q28, q29, q32, q33, q34, q35, q36, q37, q38, q39, q40, q41, q42, q43, q44, q46, q45, q56, q73, q74, q75, q76, q77, q57, q58, q59, q60, q61, q62, q63, q64, q65, q66, q67, q68, q69, q70, q71, q72, q78, q79, q80, q81, q82, q83, q84, q85, q86, q87, q88, q89, q90, q91, q92, q93⟩ := hf
  exact ⟨q56, q57, q58, q59, q60, q61, q62, q63, q64, q65, q66, q67, q68, q69, q70, q71, q72, q73, q74, q75, q76, q77, q78, q79, q80, q81, q82, q83, q84, q85, q86, q87, q88, q89, q90, q91, q92⟩
set_option maxRecDepth 100000 in
set_option maxHeartbeats 400000 in
theorem fr_C (hf : FrV E f N B gr) : CfV E f N B gr (C00 N) := by
  obtain ⟨q0, q1, q53, q54, q55, q47, q48, q49, q50, q51, q52, q2, q6, q5, rv, q7, q3, q4, rs, q8, q10, q9, rb, q11, q12, q13, q16, q14, q15, q17, q20, q21, q18, rq, q19, q22, q23, q24, q25, q30, q31, q26, rm, q27, q28, q29, q32, q33, q34, q35, q36, q37, q38, q39, q40, q41, q42, q43, q44, q46, q45, q56, q73, q74, q75, q76, q77, q57, q58, q59, q60, q61, q62, q63, q64, q65, q66, q67, q68, q69, q70, q71, q72, q78, q79, q80, q81, q82, q83, q84, q85, q86, q87, q88, q89, q90, q91, q92, q93⟩ := hf
  exact ⟨q0, q1, q53, q54, q55, q47, q48, q49, q50, q51, q52, q2, q6, q5, rv, q7, q3, q4, rs, q8, q10, q9, rb, q11, q12, q13, q16, q14, q15, q17, q20, q21, q18, rq, q19, q22, q23, q24, q25, q30, q31, q26, rm, q27, q28, q29, q32, q33, q34, q35, q36, q37, q38, q39, q40, q41, q42, q43, q44, q46, q45⟩
set_option maxRecDepth 100000 in
set_option maxHeartbeats 400000 in
theorem fr_93 (hf : FrV E f N B gr) : f 93 = oJ (gDA E) 1 (fun _ => 0) := by
  obtain ⟨q0, q1, q53, q54, q55, q47, q48, q49, q50, q51, q52, q2, q6, q5, rv, q7, q3, q4, rs, q8, q10, q9, rb, q11, q12, q13, q16, q14, q15, q17, q20, q21, q18, rq, q19, q22, q23, q24, q25, q30, q31, q26, rm, q27, q28, q29, q32, q33, q34, q35, q36, q37, q38, q39, q40, q41, q42, q43, q44, q46, q45, q56, q73, q74, q75, q76, q77, q57, q58, q59, q60, q61, q62, q63, q64, q65, q66, q67, q68, q69, q70, q71, q72, q78, q79, q80, q81, q82, q83, q84, q85, q86, q87, q88, q89, q90, q91, q92, q93⟩ := hf
  exact q93
theorem h00_db (hN : 1 ≤ N) (h1 : 4 ≤ B) (h2 : B ≤ 64) : HwR N B 1 h00 (C00 N) := by
  have z : ¬ (0 : Int32) < 0 := by decide
  have e1 : dkOf (C00 N) = (fun _ => 0, flt (fun _ => 0) 0 N (-1), fun _ => 0, fun _ _ => 0, fun _ _ => 0, 0, 0) := rfl
  have e2 : bfOf (C00 N) = (flt (fun _ => 0) 0 N (-1), fun _ => 0, fun _ => 0, fun _ _ => 0, 0, 0, 0) := rfl
  refine ⟨⟨z, z, z, z⟩, ?_, rfl⟩
  show CH N B h00 (dkOf (C00 N), bfOf (C00 N), -1, 0, 0)
  rw [e1, e2]
  refine ⟨⟨⟨by decide, by decide, fun _ _ => rfl, rfl, fun i hi => absurd hi (Nat.not_lt_zero _), fun t ht => Or.inl ⟨flt_in ht, fun i hi => absurd hi (Nat.not_lt_zero _)⟩⟩, fun _ _ => rfl⟩, ⟨rfl, rfl, rfl, fun w hw => Or.inl ⟨flt_in hw, rfl⟩⟩, ⟨by decide, by decide, fun j _ => ⟨0, by omega, rfl⟩, fun _ => byt0, fun _ => byt0, fun j hj => Or.inl (flt_in hj)⟩, ⟨by omega, h2, (bCnt_0 B).symm, by decide, fun s _ => ⟨0, by omega, rfl, fun h => absurd h z⟩, fun t ht => Or.inl (flt_in ht), fun _ => byt0, fun s _ => (show (0 : Int32) ≤ 0 by decide)⟩, ⟨fun t q x _ e => (by cases e), fun t w q x y _ _ e => (by cases e)⟩, rfl, rfl, rfl⟩
theorem fr_AU (hN : 1 ≤ N) (h1 : 4 ≤ B) (h2 : B ≤ 64) : AU N B gr A00 (C00 N) := by
  refine ⟨h00_db hN h1 h2, ⟨⟨fun t q x _ e => (by cases e), fun t w q x y _ _ e => (by cases e)⟩, (bNum_none N (fun _ _ => rfl)).symm, Nat.zero_le _, by omega⟩, byt0, fun _ _ => byt0, ⟨0, 0, Nat.le_refl _, Nat.zero_le _, rfl, rfl, fun i hi => absurd hi (Nat.not_lt_zero _), fun i j hi => absurd hi (Nat.not_lt_zero _), fun b hb => Or.inl ⟨rfl, rfl⟩⟩, fun b hb => ⟨byt0, rfl, Or.inl ⟨rfl, rfl⟩⟩, rfl⟩
theorem fr_RH (hN : N ≤ 1024) (h1 : 4 ≤ B) (h2 : B ≤ 64) : RH N B h00 (R00 N B gr) := by
  have e : ∀ t, t < 1024 → flt (fun _ => 0) 0 1024 (-1) t = -1 := fun t ht => flt_in ht
  refine ⟨0, 0, ⟨by decide, by decide, fun _ _ => rfl, rfl, fun i hi => absurd hi (Nat.not_lt_zero _), fun t ht => Or.inl ⟨e t (by omega), fun i hi => absurd hi (Nat.not_lt_zero _)⟩⟩, ⟨rfl, rfl, fun w hw => Or.inl ⟨e w (by omega), rfl⟩, fun k hk => absurd hk (Nat.not_lt_zero _)⟩, ⟨⟨rfl, by decide, rfl, by decide⟩, fun k _ => ⟨0, by decide, rfl⟩, fun t ht => Or.inl (e t ht), ⟨byt0, byt0, byt0, byt0⟩, ⟨rfl, h1, h2, rfl, Nat.zero_le _⟩, fun k _ => ⟨0, by decide, rfl⟩, fun t ht => Or.inl (e t ht)⟩, ⟨fun t q x _ e => (by cases e), fun t w q x y _ _ e => (by cases e)⟩, by decide, rfl, rfl, rfl, rfl⟩
theorem fr_RN (hN : N ≤ 1024) (h1 : 4 ≤ B) (h2 : B ≤ 64) : RN N B gr h00 (R00 N B gr) := by
  have e : ∀ t, t < 1024 → flt (fun _ => 0) 0 1024 (-1) t = -1 := fun t ht => flt_in ht
  exact ⟨fr_RH hN h1 h2, WkO.z byt0 ⟨byt0, byt0, byt0, byt0⟩ rfl (fun b hb => e b hb), ⟨rfl, Nat.zero_le _, fun c hc => absurd hc (Nat.not_lt_zero _), byt0, fun b hb => Or.inl ⟨e b hb, rfl⟩⟩, rfl, rfl, rfl, rfl⟩
theorem h00_safe (hN : 1 ≤ N) : Safe N h00 := fun img hi => by
  refine Or.inl ?_
  rcases hi 0 (by omega) with (z | z) | ⟨q, z⟩
  · rw [show img 0 = nr z0 from z]
    exact z_head
  · exact absurd z List.not_mem_nil
  · cases z
theorem fr_Und (hN1 : 1 ≤ N) (hN : N ≤ 1024) (h1 : 4 ≤ B) (h2 : B ≤ 64) : Und N B gr u A00 (C00 N) (R00 N B gr) := ⟨⟨fun _ => 0, 0, ⟨byt0, fun _ => rfl, fun _ _ => rfl⟩, rfl, rfl, by decide, byt0, byt0⟩, rfl, fr_RN hN h1 h2, ⟨rfl, fun _ _ => rfl⟩, ⟨h00_safe hN1, Nat.zero_le _⟩, ⟨0, fun _ => 0, Nat.zero_le _, rfl, fun i hi => absurd hi (Nat.not_lt_zero _), fun i j hi => absurd hi (Nat.not_lt_zero _), fun b hb => absurd rfl hb⟩, fun b hb => Bool.noConfusion hb⟩
/-- the world that the law makes -/
theorem fr_Wn (hb : 128 ≤ N ∧ N ≤ 1024 ∧ 4 ≤ B ∧ B ≤ 64 ∧ 1 ≤ gr ∧ gr ≤ 16) (hf : FrV E f N B gr) : Wn E N B gr u f := ⟨C00 N, A00, C00 N, R00 N B gr, _, fr_C hf, ⟨fun _ _ => rfl, fun _ _ => rfl⟩, fr_AU (by omega) (by omega) (by omega), RW.mk (fr_R hf), fr_93 hf, fr_Und (by omega) (by omega) (by omega) (by omega)⟩
end PXX28
