/-! ===== mount: the reference knows which block has which entry ===== -/
section PXX21
variable {N B gr : Nat} {R : RfT} {hw : Hw} {L : List En}
theorem z_m368 (hN : N ≤ 1024) (hl : L.length ≤ 40) (hL : ∀ p ∈ L, p.1 < N) : ∀ (S P : List En) (fu : Nat) (R : RfT), L = P ++ S → S.length < fu → rS R 25 = nI L.length → (∀ k, k < L.length → rA R 23 k = nI (lAt L k).1) → (∀ b, b < 1024 → EnOk (rA R 38) P b) → ∃ R', e_mount_368 fu R (nI P.length) = e_mount_368 1 R' (nI L.length) ∧ Fn [] [38] R R' ∧ ∀ b, b < 1024 → EnOk (rA R' 38) L b := by
  intro S
  induction S with
  | nil =>
    intro P fu R e hf h25 h23 h38
    obtain ⟨fu, rfl⟩ : ∃ x, fu = x + 1 := ⟨fu - 1, by omega⟩
    rw [List.append_nil] at e
    refine ⟨R, ?_, Fn.rf, fun b hb => e ▸ h38 b hb⟩
    rw [← e, e_mount_368, e_mount_368, h25, if_pos (nI_le (Nat.le_refl _) (by omega)), if_pos (nI_le (Nat.le_refl _) (by omega))]
  | cons p S ih =>
    intro P fu R e hf h25 h23 h38
    obtain ⟨fu, rfl⟩ : ∃ x, fu = x + 1 := ⟨fu - 1, by omega⟩
    have hlen : L.length = P.length + (S.length + 1) := by rw [e, List.length_append, List.length_cons]
    have hf : S.length < fu := by
      rw [List.length_cons] at hf
      omega
    have hat : lAt L P.length = p := by
      rw [e]
      exact (lAt_end (L := P) (M := p :: S) (k := 0)).trans rfl
    have hp : p ∈ L := by
      rw [e]
      exact List.mem_append.mpr (Or.inr List.mem_cons_self)
    have p2 := hL p hp
    have en : rA R 23 P.length = nI p.1 := by
      rw [h23 P.length (by omega), hat]
    have f1 : Fn [] [38] R (setA R 38 (upd (rA R 38) p.1 (nI P.length))) := Fn.a (by decide)
    obtain ⟨R', q1, q2, q3⟩ := ih (P ++ [(p.1, p.2)]) fu (setA R 38 (upd (rA R 38) p.1 (nI P.length))) (by rw [e]; simp) hf h25 (fun k hk => by rw [rA_n (by decide)]; exact h23 k hk) (fun b hb => by rw [rA_e]; exact (h38 b hb).note)
    rw [List.length_append, show [(p.1, p.2)].length = 1 from rfl] at q1
    refine ⟨R', ?_, f1.tr q2, q3⟩
    rw [e_mount_368, h25, if_neg (nI_ge (by omega) (by omega)), ld_n (by omega) (by decide), en, if_neg (show ¬ (1024 : Int32) ≤ nI p.1 from nI_ge (a := p.1) (b := 1024) (by omega) (by decide)), ld_n (by omega) (by decide), en, st_n (by omega) (by decide), nI_1]
    exact q1
end PXX21
