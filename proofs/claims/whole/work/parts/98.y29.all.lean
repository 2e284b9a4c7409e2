/-! ===== all calls, from any state ===== -/
section PXX29
variable {E : gE} {f : Nat → va_E} {N B gr u u' : Nat} {C : CfT} {A : MS} {D : CfT} {R : RfT} {Inv : (Nat → va_E) → Prop}
theorem Und.up (h : Und N B gr u A D R) (hu : u ≤ u') : Und N B gr u' A D R := ⟨h.1, h.2.1, h.2.2.1, h.2.2.2.1, h.2.2.2.2.up hu⟩
theorem Mtd.up (h : Mtd N B gr u A D R) (hu : u ≤ u') : Mtd N B gr u' A D R := by
  obtain ⟨g, m, V, tk, hd, hi, tp, tl, im, hL⟩ := h
  exact im.mtd hu hL
theorem Wz.up (h : Wz E N B gr u f) (hu : u ≤ u') : Wz E N B gr u' f := by
  obtain ⟨C, A, D, R, o, w1, w2, w4, w5, ⟨p1, p2⟩ | ⟨p1, p2⟩ | ⟨p1, p2⟩⟩ := h
  · exact ⟨C, A, D, R, o, w1, w2, w4, w5, Or.inl ⟨p1, p2.up hu⟩⟩
  · exact ⟨C, A, D, R, o, w1, w2, w4, w5, Or.inr (Or.inl ⟨p1, p2.up hu⟩)⟩
  · exact ⟨C, A, D, R, o, w1, w2, w4, w5, Or.inr (Or.inr ⟨p1, p2.up hu⟩)⟩
theorem Wz.c (h : Wz E N B gr u f) : Wm E N B gr u f ∨ Wy E N B gr u f := by
  obtain ⟨C, A, D, R, o, w1, w2, w4, w5, ⟨p1, p2⟩ | p⟩ := h
  · exact Or.inl ⟨C, A, D, R, o, w1, w2, p1, w4, w5, p2⟩
  · exact Or.inr ⟨C, A, D, R, o, w1, w2, w4, w5, p⟩
theorem Mtd.bz (d : Dq D C) (h : Mtd N B gr u A D R) : Bz C R := by
  obtain ⟨g, m, V, tk, hd, hi, tp, tl, im, hL⟩ := h
  have hf := im.2.2.2.2.2.2.2.1
  refine ⟨fun z => ?_, fun z => ?_⟩
  · have e : cS C 2 = 1 := (d.1 2 (Or.inl (by decide))).trans hf.2.2.2.2.1.1
    rw [e] at z
    exact absurd z.1 (by decide)
  · rw [hf.2.2.2.2.2.1] at z
    exact absurd z.1 (by decide)
theorem Offd.bz (a : AX N B gr A C) (h : Offd N B gr u A D R) : Bz C R := ⟨fun z => z.2 a.1.2.2, fun z => z.2 h.n.2.1.1.1⟩
theorem a_format (hz : CfZ E N B gr) (hE : 94 ≤ gN E) (hu : u + 400000 < 2 ^ 31) (h : Wz E N B gr u f) (i0 : ∀ g, Wz E N B gr u g → Inv g) (iZ : ∀ g, Wz E N B gr (u + 200000) g → Inv g) : CsI E f yX11_format cX11_format 3 yX12_format cX12_format 2 [] [xI, xU] Inv := by
  obtain ⟨C, A, D, R, o, w1, w2, w4, w5, p⟩ := id h
  rcases id p with ⟨p1, p2⟩ | ⟨p1, p2⟩ | ⟨p1, p2⟩
  · exact z_formatI hz hE w1 w2 w4 w5 p (p2.bz w2) i0
  · exact n_format hz hE hu ⟨C, A, D, R, o, w1, w2, p1, w4, w5, p2⟩ (fun g w => iZ g w.y.z) (fun g w => iZ g w.y.z)
  · exact z_formatI hz hE w1 w2 w4 w5 p (p2.bz p1) i0
theorem a_mount (hz : CfZ E N B gr) (hE : 94 ≤ gN E) (hu : u + 400000 < 2 ^ 31) (h : Wz E N B gr u f) (i0 : ∀ g, Wz E N B gr u g → Inv g) (iZ : ∀ g, Wz E N B gr (u + 200000) g → Inv g) : CsI E f yX11_mount cX11_mount 2 yX12_mount cX12_mount 6 [] [xI, xU, xA] Inv := by
  obtain ⟨C, A, D, R, o, w1, w2, w4, w5, p⟩ := id h
  rcases id p with ⟨p1, p2⟩ | ⟨p1, p2⟩ | ⟨p1, p2⟩
  · exact z_mountI hz hE w1 w2 w4 w5 p (p2.bz w2) i0
  · exact n_mount hz hE hu ⟨C, A, D, R, o, w1, w2, p1, w4, w5, p2⟩ (fun g w => iZ g w.z) (fun g w => i0 g w.y.z) (fun g w => iZ g w.y.z)
  · exact z_mountI hz hE w1 w2 w4 w5 p (p2.bz p1) i0
theorem a_restart {a : Int64} (hz : CfZ E N B gr) (hE : 94 ≤ gN E) (hu : u + 400000 < 2 ^ 31) (h : Wz E N B gr u f) (i0 : ∀ g, Wz E N B gr u g → Inv g) : CsI E f yX11_restart cX11_restart 3 yX12_restart cX12_restart 12 [.long a] [xI] Inv := by
  obtain ⟨C, A, D, R, o, w1, w2, w4, w5, p⟩ := id h
  rcases p.on with ⟨o1, o2, -⟩ | ⟨o1, o2⟩
  · exact z_restartI hz hE w1 w2 w4 w5 p (by rw [o1]; decide) o2 i0
  · rcases id p with ⟨p1, p2⟩ | ⟨p1, p2⟩ | ⟨p1, p2⟩
    · exact absurd (p1.1.2.2.symm.trans o1) (by decide)
    · exact absurd (p1.1.2.2.symm.trans o1) (by decide)
    · exact o_restart hz hE (by omega) ⟨C, A, D, R, o, w1, w2, p1, w4, w5, p2⟩ (fun g w => i0 g w.y.z)
/-- whatever is called, both answer alike, and all stays in order -/
theorem a_all (hz : CfZ E N B gr) (hE : 94 ≤ gN E) (hu : u + 400000 < 2 ^ 31) (h : Wz E N B gr u f) (iZ : ∀ g, Wz E N B gr (u + 200000) g → Inv g) (a : Nat → Int32) : ∀ n, n < 45 → Case E f a Inv n := by
  have i0 : ∀ g, Wz E N B gr u g → Inv g := fun g w => iZ g (w.up (by omega))
  have iY : ∀ g, Wy E N B gr u g → Inv g := fun g w => i0 g w.z
  have iM : ∀ g, Wm E N B gr (u + 200000) g → Inv g := fun g w => iZ g w.z
  have iN : ∀ g, Wn E N B gr (u + 200000) g → Inv g := fun g w => iZ g w.y.z
  have iO : ∀ g, Wo E N B gr (u + 200000) g → Inv g := fun g w => iZ g w.y.z
  intro n hn
  match n, hn with
  | 0, _ => exact z_feed hz hE h i0
  | 1, _ => exact z_back hz hE h i0
  | 2, _ => exact a_format hz hE hu h i0 iZ
  | 3, _ => exact a_mount hz hE hu h i0 iZ
  | 4, _ => exact h.c.elim (fun w => m_unmount hz hE hu w iN iO) (fun w => n_unmount hz hE w iY)
  | 5, _ => exact h.c.elim (fun w => m_make hz hE hu w iM iO) (fun w => n_make hz hE w iY)
  | 6, _ => exact h.c.elim (fun w => m_remove hz hE hu w iM iO) (fun w => n_remove hz hE w iY)
  | 7, _ => exact h.c.elim (fun w => m_rename hz hE hu w iM iO) (fun w => n_rename hz hE w iY)
  | 8, _ => exact h.c.elim (fun w => m_link hz hE hu w iM iO) (fun w => n_link hz hE w iY)
  | 9, _ => exact h.c.elim (fun w => m_clear hz hE hu w iM iO) (fun w => n_clear hz hE w iY)
  | 10, _ => exact h.c.elim (fun w => m_copy hz hE hu w iM iO) (fun w => n_copy hz hE w iY)
  | 11, _ => exact h.c.elim (fun w => m_find hz hE hu w iM iO) (fun w => n_find hz hE w iY)
  | 12, _ => exact h.c.elim (fun w => m_write hz hE hu w iM iO) (fun w => n_write hz hE w iY)
  | 13, _ => exact h.c.elim (fun w => m_fill hz hE hu w iM iO) (fun w => n_fill hz hE w iY)
  | 14, _ => exact h.c.elim (fun w => m_truncate hz hE hu w iM iO) (fun w => n_truncate hz hE w iY)
  | 15, _ => exact h.c.elim (fun w => m_mark hz hE hu w iM iO) (fun w => n_mark hz hE w iY)
  | 16, _ => exact h.c.elim (fun w => m_punch hz hE hu w iM iO) (fun w => n_punch hz hE w iY)
  | 17, _ => exact h.c.elim (fun w => m_hold hz hE hu w iM iO) (fun w => n_hold hz hE w iY)
  | 18, _ => exact h.c.elim (fun w => m_release hz hE hu w iM iO) (fun w => n_release hz hE w iY)
  | 19, _ => exact h.c.elim (fun w => m_read hz hE hu w iM iO) (fun w => n_read hz hE w iY)
  | 20, _ => exact h.c.elim (fun w => m_about hz hE hu w iM iO) (fun w => n_about hz hE w iY)
  | 21, _ => exact h.c.elim (fun w => m_where hz hE hu w iM iO) (fun w => n_where hz hE w iY)
  | 22, _ => exact h.c.elim (fun w => m_entry hz hE hu w iM iO) (fun w => n_entry hz hE w iY)
  | 23, _ => exact h.c.elim (fun w => m_letter hz hE hu w iM iO) (fun w => n_letter hz hE w iY)
  | 24, _ => exact h.c.elim (fun w => m_open hz hE hu w iM iO) (fun w => n_open hz hE w iY)
  | 25, _ => exact h.c.elim (fun w => m_close hz hE hu w iM iO) (fun w => n_close hz hE w iY)
  | 26, _ => exact h.c.elim (fun w => m_put hz hE hu w iM iO) (fun w => n_put hz hE w iY)
  | 27, _ => exact h.c.elim (fun w => m_get hz hE hu w iM iO) (fun w => n_get hz hE w iY)
  | 28, _ => exact h.c.elim (fun w => m_seek hz hE hu w iM iO) (fun w => n_seek hz hE w iY)
  | 29, _ => exact h.c.elim (fun w => m_look hz hE hu w iM iO) (fun w => n_look hz hE w iY)
  | 30, _ => exact h.c.elim (fun w => m_begin hz hE hu w iM iO) (fun w => n_begin hz hE w iY)
  | 31, _ => exact h.c.elim (fun w => m_end hz hE hu w iM iO) (fun w => n_end hz hE w iY)
  | 32, _ => exact h.c.elim (fun w => m_undo hz hE hu w iM iO) (fun w => n_undo hz hE w iY)
  | 33, _ => exact h.c.elim (fun w => m_flush hz hE hu w iM iO) (fun w => n_flush hz hE w iY)
  | 34, _ => exact h.c.elim (fun w => m_sync hz hE hu w iM iO) (fun w => n_sync hz hE w iY)
  | 35, _ => exact h.c.elim (fun w => m_apply hz hE hu w iM iO) (fun w => n_apply hz hE w iY)
  | 36, _ => exact z_power hz hE h i0
  | 37, _ => exact z_crash hz hE h i0
  | 38, _ => exact a_restart hz hE hu h i0
  | 39, _ => exact z_byteAt hz hE h i0
  | 40, _ => exact z_waiting hz hE h i0
  | 41, _ => exact h.c.elim (fun w => m_seen hz hE hu w iM iO) (fun w => n_seen hz hE w iY)
  | 42, _ => exact h.c.elim (fun w => m_tree hz hE hu w iM iO) (fun w => n_tree hz hE w iY)
  | 43, _ => exact h.c.elim (fun w => m_check hz hE hu w iM iO) (fun w => n_check hz hE w iY)
  | 44, _ => exact h.c.elim (fun w => m_count hz hE hu w iM iO) (fun w => n_count hz hE w i0)
  | n + 45, hn => exact absurd hn (by omega)
end PXX29
