/-! ===== mount ===== -/
section PXX27
variable {E : gE} {f : Nat → va_E} {N B gr u : Nat} {Inv : (Nat → va_E) → Prop}
theorem n_mount (hz : CfZ E N B gr) (hE : 94 ≤ gN E) (hu : u + 400000 < 2 ^ 31) (hw : Wn E N B gr u f) (iM : ∀ g, Wm E N B gr (u + 200000) g → Inv g) (iN : ∀ g, Wn E N B gr u g → Inv g) (iO : ∀ g, Wo E N B gr (u + 200000) g → Inv g) : CsI E f yX11_mount cX11_mount 2 yX12_mount cX12_mount 6 [] [xI, xU, xA] Inv := by
  obtain ⟨C, A, D, R, o, w1, w2, w3, w4, w5, w6⟩ := hw
  obtain ⟨z1, z2, z3, z4, z5, z6, z7⟩ := id hz
  by_cases hb : hSee A.1 0 = mH00 N
  · obtain ⟨ho, d2, rn, q, ⟨sf, hs⟩, tj⟩ := id w6
    rcases sf (hSee A.1) (fun t _ => hPs_see) with nb | ⟨L, tu, r, wf⟩
    · exact absurd hb nb
    obtain ⟨C9, e1, e2, e3⟩ := q_mnt (gr := gr) (by omega) z2 w3 w2 d2 q tj hb r
    have kc : ∀ r, d_X11_mount_68 N B gr (aM A.1 L tu) (dM D) (nI L.length) = some r → Ct E 30 yX11_mount cX11_mount 2 (some .int) [.ref (gAd E 0)] f (FQ E N B gr f (fun r => some (.int r)) r) := fun r hr => by
      refine Ct.of (by decide) (Nat.le_of_ble_eq_true rfl) (fun sz => ?_)
      refine G.eql [(0, .ref (gAd E (0)))] rfl ?_
      exact kq_X11_mount E f sz _ _ N B gr C hz w1 (nI L.length) C9 e1 (fun g hg fr => l_X11_mount_68 E f sz _ N B gr C9 hz _ _ _ r hr g C9 hg e2 e3 fr)
    refine cs_I (u := u + 200000) (c0 := 1) (k0 := 0) w1 w4 w5 kc (fun g w' r R9 hr => k_X12_mount E g hE R w' r R9 hr) (by decide) (by decide) (fun ex _ => (m_ret (by omega) z2 z5 z6 (by omega) w6 w3.2.1 hb r wf).upR (by omega)) (by decide) rfl (by decide) (Or.inl rfl) iM iO
  · exact n_mountBad hz hE (by omega) w1 w2 w3 w4 w5 w6 hb iN
end PXX27
