section GLQ
set_option maxRecDepth 100000 in
set_option maxHeartbeats 400000 in
theorem p_unmount (E : gE) (f : Nat → va_E) (N B gr : Nat) (hb : 128 ≤ N ∧ N ≤ 1024 ∧ 4 ≤ B ∧ B ≤ 64 ∧ 1 ≤ gr ∧ gr ≤ 16) (hE : gN E = 350 + 2 * N + B + gr * 40) (hf : FrV E f N B gr) (Inv : (Nat → va_E) → Prop) (hI : ∀ u, Inv u) (a : Nat → Int32) : CsV E f yX11_unmount cX11_unmount 1 yX12_unmount cX12_unmount 2 [] [xI, xU] Inv := by
  obtain ⟨hN1, hN2, hB1, hB2, hg1, hg2⟩ := id hb
  have r := p_R E f N B gr hb hE hf
  have hm := p_M E f N B gr hb hE hf
  have hdv := p_D E f N B gr hb hE hf
  have hdo := d00_ok (N := N) (by omega)
  refine ⟨7, _, u_X11_unmount E f _ 0 0 (by omega) hm (by decide) N (d00 N) 1 (-1) 0 0 (by omega) (by omega) hdv hdo (fun q => q.1 rfl) , by decide, ⟨_, hm.1⟩, fun v g h => h.elim, fun X g h => ⟨0, by rw [h.1]; rfl, ?_⟩⟩
  have rg : RfV E g (R00 N B gr) := r.of (fun k hk => h.2.2 k (fun q => by have := hk.1; unfold MnK at q; omega))
  exact ⟨3, _, u_X12_unmount E g (R00 N B gr) 0 (by decide) rfl (fun k hk => absurd hk (by omega)) rfl (by omega) rg , by decide, ⟨_, rg.o⟩, fun X u h2 => h2, fun v u h2 => ⟨_, h2.1, h2.2.1, rfl, hI _⟩⟩
set_option maxRecDepth 100000 in
set_option maxHeartbeats 400000 in
theorem p_make (E : gE) (f : Nat → va_E) (N B gr : Nat) (hb : 128 ≤ N ∧ N ≤ 1024 ∧ 4 ≤ B ∧ B ≤ 64 ∧ 1 ≤ gr ∧ gr ≤ 16) (hE : gN E = 350 + 2 * N + B + gr * 40) (hf : FrV E f N B gr) (Inv : (Nat → va_E) → Prop) (hI : ∀ u, Inv u) (a : Nat → Int32) : CsI E f yX11_make cX11_make 6 yX12_make cX12_make 8 [.int (sB (a 1))] [xI, xU] Inv := by
  obtain ⟨hN1, hN2, hB1, hB2, hg1, hg2⟩ := id hb
  have r := p_R E f N B gr hb hE hf
  have hm := p_M E f N B gr hb hE hf
  have hdv := p_D E f N B gr hb hE hf
  have hdo := d00_ok (N := N) (by omega)
  refine ⟨7, _, u_X11_make E f _ 0 0 (by omega) hm (by decide) N (d00 N) 1 (-1) 0 0 (by omega) (by omega) hdv hdo (fun q => q.1 rfl) (sB (a 1)), by decide, ⟨_, hm.1⟩, fun v g h => h.elim, fun X g h => ⟨0, by rw [h.1]; rfl, ?_⟩⟩
  have rg : RfV E g (R00 N B gr) := r.of (fun k hk => h.2.2 k (fun q => by have := hk.1; unfold MnK at q; omega))
  exact ⟨3, _, u_X12_make E g (R00 N B gr) 0 (by decide) rfl (fun k hk => absurd hk (by omega)) rfl (by omega) rg (sB (a 1)), by decide, ⟨_, rg.o⟩, fun X u h2 => h2, fun v u h2 => ⟨0, _, h2.1, h2.2.1, rfl, fun e => absurd e (by decide), hI _⟩⟩
set_option maxRecDepth 100000 in
set_option maxHeartbeats 400000 in
theorem p_remove (E : gE) (f : Nat → va_E) (N B gr : Nat) (hb : 128 ≤ N ∧ N ≤ 1024 ∧ 4 ≤ B ∧ B ≤ 64 ∧ 1 ≤ gr ∧ gr ≤ 16) (hE : gN E = 350 + 2 * N + B + gr * 40) (hf : FrV E f N B gr) (Inv : (Nat → va_E) → Prop) (hI : ∀ u, Inv u) (a : Nat → Int32) : CsI E f yX11_remove cX11_remove 4 yX12_remove cX12_remove 6 [] [xI, xU] Inv := by
  obtain ⟨hN1, hN2, hB1, hB2, hg1, hg2⟩ := id hb
  have r := p_R E f N B gr hb hE hf
  have hm := p_M E f N B gr hb hE hf
  have hdv := p_D E f N B gr hb hE hf
  have hdo := d00_ok (N := N) (by omega)
  refine ⟨7, _, u_X11_remove E f _ 0 0 (by omega) hm (by decide) N (d00 N) 1 (-1) 0 0 (by omega) (by omega) hdv hdo (fun q => q.1 rfl) , by decide, ⟨_, hm.1⟩, fun v g h => h.elim, fun X g h => ⟨0, by rw [h.1]; rfl, ?_⟩⟩
  have rg : RfV E g (R00 N B gr) := r.of (fun k hk => h.2.2 k (fun q => by have := hk.1; unfold MnK at q; omega))
  exact ⟨3, _, u_X12_remove E g (R00 N B gr) 0 (by decide) rfl (fun k hk => absurd hk (by omega)) rfl (by omega) rg , by decide, ⟨_, rg.o⟩, fun X u h2 => h2, fun v u h2 => ⟨0, _, h2.1, h2.2.1, rfl, fun e => absurd e (by decide), hI _⟩⟩
set_option maxRecDepth 100000 in
set_option maxHeartbeats 400000 in
theorem p_rename (E : gE) (f : Nat → va_E) (N B gr : Nat) (hb : 128 ≤ N ∧ N ≤ 1024 ∧ 4 ≤ B ∧ B ≤ 64 ∧ 1 ≤ gr ∧ gr ≤ 16) (hE : gN E = 350 + 2 * N + B + gr * 40) (hf : FrV E f N B gr) (Inv : (Nat → va_E) → Prop) (hI : ∀ u, Inv u) (a : Nat → Int32) : CsI E f yX11_rename cX11_rename 9 yX12_rename cX12_rename 10 [] [xI, xU] Inv := by
  obtain ⟨hN1, hN2, hB1, hB2, hg1, hg2⟩ := id hb
  have r := p_R E f N B gr hb hE hf
  have hm := p_M E f N B gr hb hE hf
  have hdv := p_D E f N B gr hb hE hf
  have hdo := d00_ok (N := N) (by omega)
  refine ⟨7, _, u_X11_rename E f _ 0 0 (by omega) hm (by decide) N (d00 N) 1 (-1) 0 0 (by omega) (by omega) hdv hdo (fun q => q.1 rfl) , by decide, ⟨_, hm.1⟩, fun v g h => h.elim, fun X g h => ⟨0, by rw [h.1]; rfl, ?_⟩⟩
  have rg : RfV E g (R00 N B gr) := r.of (fun k hk => h.2.2 k (fun q => by have := hk.1; unfold MnK at q; omega))
  exact ⟨3, _, u_X12_rename E g (R00 N B gr) 0 (by decide) rfl (fun k hk => absurd hk (by omega)) rfl (by omega) rg , by decide, ⟨_, rg.o⟩, fun X u h2 => h2, fun v u h2 => ⟨0, _, h2.1, h2.2.1, rfl, fun e => absurd e (by decide), hI _⟩⟩
set_option maxRecDepth 100000 in
set_option maxHeartbeats 400000 in
theorem p_link (E : gE) (f : Nat → va_E) (N B gr : Nat) (hb : 128 ≤ N ∧ N ≤ 1024 ∧ 4 ≤ B ∧ B ≤ 64 ∧ 1 ≤ gr ∧ gr ≤ 16) (hE : gN E = 350 + 2 * N + B + gr * 40) (hf : FrV E f N B gr) (Inv : (Nat → va_E) → Prop) (hI : ∀ u, Inv u) (a : Nat → Int32) : CsI E f yX11_link cX11_link 5 yX12_link cX12_link 6 [] [xI, xU] Inv := by
  obtain ⟨hN1, hN2, hB1, hB2, hg1, hg2⟩ := id hb
  have r := p_R E f N B gr hb hE hf
  have hm := p_M E f N B gr hb hE hf
  have hdv := p_D E f N B gr hb hE hf
  have hdo := d00_ok (N := N) (by omega)
  refine ⟨7, _, u_X11_link E f _ 0 0 (by omega) hm (by decide) N (d00 N) 1 (-1) 0 0 (by omega) (by omega) hdv hdo (fun q => q.1 rfl) , by decide, ⟨_, hm.1⟩, fun v g h => h.elim, fun X g h => ⟨0, by rw [h.1]; rfl, ?_⟩⟩
  have rg : RfV E g (R00 N B gr) := r.of (fun k hk => h.2.2 k (fun q => by have := hk.1; unfold MnK at q; omega))
  exact ⟨3, _, u_X12_link E g (R00 N B gr) 0 (by decide) rfl (fun k hk => absurd hk (by omega)) rfl (by omega) rg , by decide, ⟨_, rg.o⟩, fun X u h2 => h2, fun v u h2 => ⟨0, _, h2.1, h2.2.1, rfl, fun e => absurd e (by decide), hI _⟩⟩
set_option maxRecDepth 100000 in
set_option maxHeartbeats 400000 in
theorem p_clear (E : gE) (f : Nat → va_E) (N B gr : Nat) (hb : 128 ≤ N ∧ N ≤ 1024 ∧ 4 ≤ B ∧ B ≤ 64 ∧ 1 ≤ gr ∧ gr ≤ 16) (hE : gN E = 350 + 2 * N + B + gr * 40) (hf : FrV E f N B gr) (Inv : (Nat → va_E) → Prop) (hI : ∀ u, Inv u) (a : Nat → Int32) : CsI E f yX11_clear cX11_clear 8 yX12_clear cX12_clear 7 [] [xI, xU] Inv := by
  obtain ⟨hN1, hN2, hB1, hB2, hg1, hg2⟩ := id hb
  have r := p_R E f N B gr hb hE hf
  have hm := p_M E f N B gr hb hE hf
  have hdv := p_D E f N B gr hb hE hf
  have hdo := d00_ok (N := N) (by omega)
  refine ⟨7, _, u_X11_clear E f _ 0 0 (by omega) hm (by decide) N (d00 N) 1 (-1) 0 0 (by omega) (by omega) hdv hdo (fun q => q.1 rfl) , by decide, ⟨_, hm.1⟩, fun v g h => h.elim, fun X g h => ⟨0, by rw [h.1]; rfl, ?_⟩⟩
  have rg : RfV E g (R00 N B gr) := r.of (fun k hk => h.2.2 k (fun q => by have := hk.1; unfold MnK at q; omega))
  exact ⟨3, _, u_X12_clear E g (R00 N B gr) 0 (by decide) rfl (fun k hk => absurd hk (by omega)) rfl (by omega) rg , by decide, ⟨_, rg.o⟩, fun X u h2 => h2, fun v u h2 => ⟨0, _, h2.1, h2.2.1, rfl, fun e => absurd e (by decide), hI _⟩⟩
set_option maxRecDepth 100000 in
set_option maxHeartbeats 400000 in
theorem p_copy (E : gE) (f : Nat → va_E) (N B gr : Nat) (hb : 128 ≤ N ∧ N ≤ 1024 ∧ 4 ≤ B ∧ B ≤ 64 ∧ 1 ≤ gr ∧ gr ≤ 16) (hE : gN E = 350 + 2 * N + B + gr * 40) (hf : FrV E f N B gr) (Inv : (Nat → va_E) → Prop) (hI : ∀ u, Inv u) (a : Nat → Int32) : CsI E f yX11_copy cX11_copy 6 yX12_copy cX12_copy 8 [] [xI, xU] Inv := by
  obtain ⟨hN1, hN2, hB1, hB2, hg1, hg2⟩ := id hb
  have r := p_R E f N B gr hb hE hf
  have hm := p_M E f N B gr hb hE hf
  have hdv := p_D E f N B gr hb hE hf
  have hdo := d00_ok (N := N) (by omega)
  refine ⟨7, _, u_X11_copy E f _ 0 0 (by omega) hm (by decide) N (d00 N) 1 (-1) 0 0 (by omega) (by omega) hdv hdo (fun q => q.1 rfl) , by decide, ⟨_, hm.1⟩, fun v g h => h.elim, fun X g h => ⟨0, by rw [h.1]; rfl, ?_⟩⟩
  have rg : RfV E g (R00 N B gr) := r.of (fun k hk => h.2.2 k (fun q => by have := hk.1; unfold MnK at q; omega))
  exact ⟨3, _, u_X12_copy E g (R00 N B gr) 0 (by decide) rfl (fun k hk => absurd hk (by omega)) rfl (by omega) rg , by decide, ⟨_, rg.o⟩, fun X u h2 => h2, fun v u h2 => ⟨0, _, h2.1, h2.2.1, rfl, fun e => absurd e (by decide), hI _⟩⟩
set_option maxRecDepth 100000 in
set_option maxHeartbeats 400000 in
theorem p_find (E : gE) (f : Nat → va_E) (N B gr : Nat) (hb : 128 ≤ N ∧ N ≤ 1024 ∧ 4 ≤ B ∧ B ≤ 64 ∧ 1 ≤ gr ∧ gr ≤ 16) (hE : gN E = 350 + 2 * N + B + gr * 40) (hf : FrV E f N B gr) (Inv : (Nat → va_E) → Prop) (hI : ∀ u, Inv u) (a : Nat → Int32) : CsI E f yX11_find cX11_find 2 yX12_find cX12_find 3 [] [xI] Inv := by
  obtain ⟨hN1, hN2, hB1, hB2, hg1, hg2⟩ := id hb
  have r := p_R E f N B gr hb hE hf
  have hm := p_M E f N B gr hb hE hf
  have hdv := p_D E f N B gr hb hE hf
  have hdo := d00_ok (N := N) (by omega)
  refine ⟨7, _, u_X11_find E f _ 0 0 (by omega) hm (by decide) N (d00 N) 1 (-1) 0 0 (by omega) (by omega) hdv hdo (fun q => q.1 rfl) , by decide, ⟨_, hm.1⟩, fun v g h => h.elim, fun X g h => ⟨0, by rw [h.1]; rfl, ?_⟩⟩
  have rg : RfV E g (R00 N B gr) := r.of (fun k hk => h.2.2 k (fun q => by have := hk.1; unfold MnK at q; omega))
  exact ⟨3, _, u_X12_find E g (R00 N B gr) 0 (by decide) rfl (fun k hk => absurd hk (by omega)) rfl (by omega) rg , by decide, ⟨_, rg.o⟩, fun X u h2 => h2, fun v u h2 => ⟨0, _, h2.1, h2.2.1, rfl, fun e => absurd e (by decide), hI _⟩⟩
set_option maxRecDepth 100000 in
set_option maxHeartbeats 400000 in
theorem p_write (E : gE) (f : Nat → va_E) (N B gr : Nat) (hb : 128 ≤ N ∧ N ≤ 1024 ∧ 4 ≤ B ∧ B ≤ 64 ∧ 1 ≤ gr ∧ gr ≤ 16) (hE : gN E = 350 + 2 * N + B + gr * 40) (hf : FrV E f N B gr) (Inv : (Nat → va_E) → Prop) (hI : ∀ u, Inv u) (a : Nat → Int32) : CsI E f yX11_write cX11_write 5 yX12_write cX12_write 5 [.int (a 1), .int (a 2)] [xI, xU] Inv := by
  obtain ⟨hN1, hN2, hB1, hB2, hg1, hg2⟩ := id hb
  have r := p_R E f N B gr hb hE hf
  have hm := p_M E f N B gr hb hE hf
  have hdv := p_D E f N B gr hb hE hf
  have hdo := d00_ok (N := N) (by omega)
  refine ⟨7, _, u_X11_write E f _ 0 0 (by omega) hm (by decide) N (d00 N) 1 (-1) 0 0 (by omega) (by omega) hdv hdo (fun q => q.1 rfl) (a 1) (a 2), by decide, ⟨_, hm.1⟩, fun v g h => h.elim, fun X g h => ⟨0, by rw [h.1]; rfl, ?_⟩⟩
  have rg : RfV E g (R00 N B gr) := r.of (fun k hk => h.2.2 k (fun q => by have := hk.1; unfold MnK at q; omega))
  exact ⟨3, _, u_X12_write E g (R00 N B gr) 0 (by decide) rfl (fun k hk => absurd hk (by omega)) rfl (by omega) rg (a 1) (a 2), by decide, ⟨_, rg.o⟩, fun X u h2 => h2, fun v u h2 => ⟨0, _, h2.1, h2.2.1, rfl, fun e => absurd e (by decide), hI _⟩⟩
set_option maxRecDepth 100000 in
set_option maxHeartbeats 400000 in
theorem p_fill (E : gE) (f : Nat → va_E) (N B gr : Nat) (hb : 128 ≤ N ∧ N ≤ 1024 ∧ 4 ≤ B ∧ B ≤ 64 ∧ 1 ≤ gr ∧ gr ≤ 16) (hE : gN E = 350 + 2 * N + B + gr * 40) (hf : FrV E f N B gr) (Inv : (Nat → va_E) → Prop) (hI : ∀ u, Inv u) (a : Nat → Int32) : CsI E f yX11_fill cX11_fill 7 yX12_fill cX12_fill 6 [.int (a 1), .int (a 2), .int (a 3), .int (a 4)] [xI, xU, xA] Inv := by
  obtain ⟨hN1, hN2, hB1, hB2, hg1, hg2⟩ := id hb
  have r := p_R E f N B gr hb hE hf
  have hm := p_M E f N B gr hb hE hf
  have hdv := p_D E f N B gr hb hE hf
  have hdo := d00_ok (N := N) (by omega)
  refine ⟨7, _, u_X11_fill E f _ 0 0 (by omega) hm (by decide) N (d00 N) 1 (-1) 0 0 (by omega) (by omega) hdv hdo (fun q => q.1 rfl) (a 1) (a 2) (a 3) (a 4), by decide, ⟨_, hm.1⟩, fun v g h => h.elim, fun X g h => ⟨0, by rw [h.1]; rfl, ?_⟩⟩
  have rg : RfV E g (R00 N B gr) := r.of (fun k hk => h.2.2 k (fun q => by have := hk.1; unfold MnK at q; omega))
  exact ⟨3, _, u_X12_fill E g (R00 N B gr) 0 (by decide) rfl (fun k hk => absurd hk (by omega)) rfl (by omega) rg (a 1) (a 2) (a 3) (a 4), by decide, ⟨_, rg.o⟩, fun X u h2 => h2, fun v u h2 => ⟨0, _, h2.1, h2.2.1, rfl, fun e => absurd e (by decide), hI _⟩⟩
set_option maxRecDepth 100000 in
set_option maxHeartbeats 400000 in
theorem p_truncate (E : gE) (f : Nat → va_E) (N B gr : Nat) (hb : 128 ≤ N ∧ N ≤ 1024 ∧ 4 ≤ B ∧ B ≤ 64 ∧ 1 ≤ gr ∧ gr ≤ 16) (hE : gN E = 350 + 2 * N + B + gr * 40) (hf : FrV E f N B gr) (Inv : (Nat → va_E) → Prop) (hI : ∀ u, Inv u) (a : Nat → Int32) : CsI E f yX11_truncate cX11_truncate 5 yX12_truncate cX12_truncate 4 [.int (a 1), .int (a 2)] [xI, xU] Inv := by
  obtain ⟨hN1, hN2, hB1, hB2, hg1, hg2⟩ := id hb
  have r := p_R E f N B gr hb hE hf
  have hm := p_M E f N B gr hb hE hf
  have hdv := p_D E f N B gr hb hE hf
  have hdo := d00_ok (N := N) (by omega)
  refine ⟨7, _, u_X11_truncate E f _ 0 0 (by omega) hm (by decide) N (d00 N) 1 (-1) 0 0 (by omega) (by omega) hdv hdo (fun q => q.1 rfl) (a 1) (a 2), by decide, ⟨_, hm.1⟩, fun v g h => h.elim, fun X g h => ⟨0, by rw [h.1]; rfl, ?_⟩⟩
  have rg : RfV E g (R00 N B gr) := r.of (fun k hk => h.2.2 k (fun q => by have := hk.1; unfold MnK at q; omega))
  exact ⟨3, _, u_X12_truncate E g (R00 N B gr) 0 (by decide) rfl (fun k hk => absurd hk (by omega)) rfl (by omega) rg (a 1) (a 2), by decide, ⟨_, rg.o⟩, fun X u h2 => h2, fun v u h2 => ⟨0, _, h2.1, h2.2.1, rfl, fun e => absurd e (by decide), hI _⟩⟩
set_option maxRecDepth 100000 in
set_option maxHeartbeats 400000 in
theorem p_mark (E : gE) (f : Nat → va_E) (N B gr : Nat) (hb : 128 ≤ N ∧ N ≤ 1024 ∧ 4 ≤ B ∧ B ≤ 64 ∧ 1 ≤ gr ∧ gr ≤ 16) (hE : gN E = 350 + 2 * N + B + gr * 40) (hf : FrV E f N B gr) (Inv : (Nat → va_E) → Prop) (hI : ∀ u, Inv u) (a : Nat → Int32) : CsI E f yX11_mark cX11_mark 3 yX12_mark cX12_mark 3 [.int (a 1), .int (a 2)] [xI, xU] Inv := by
  obtain ⟨hN1, hN2, hB1, hB2, hg1, hg2⟩ := id hb
  have r := p_R E f N B gr hb hE hf
  have hm := p_M E f N B gr hb hE hf
  have hdv := p_D E f N B gr hb hE hf
  have hdo := d00_ok (N := N) (by omega)
  refine ⟨7, _, u_X11_mark E f _ 0 0 (by omega) hm (by decide) N (d00 N) 1 (-1) 0 0 (by omega) (by omega) hdv hdo (fun q => q.1 rfl) (a 1) (a 2), by decide, ⟨_, hm.1⟩, fun v g h => h.elim, fun X g h => ⟨0, by rw [h.1]; rfl, ?_⟩⟩
  have rg : RfV E g (R00 N B gr) := r.of (fun k hk => h.2.2 k (fun q => by have := hk.1; unfold MnK at q; omega))
  exact ⟨3, _, u_X12_mark E g (R00 N B gr) 0 (by decide) rfl (fun k hk => absurd hk (by omega)) rfl (by omega) rg (a 1) (a 2), by decide, ⟨_, rg.o⟩, fun X u h2 => h2, fun v u h2 => ⟨0, _, h2.1, h2.2.1, rfl, fun e => absurd e (by decide), hI _⟩⟩
set_option maxRecDepth 100000 in
set_option maxHeartbeats 400000 in
theorem p_punch (E : gE) (f : Nat → va_E) (N B gr : Nat) (hb : 128 ≤ N ∧ N ≤ 1024 ∧ 4 ≤ B ∧ B ≤ 64 ∧ 1 ≤ gr ∧ gr ≤ 16) (hE : gN E = 350 + 2 * N + B + gr * 40) (hf : FrV E f N B gr) (Inv : (Nat → va_E) → Prop) (hI : ∀ u, Inv u) (a : Nat → Int32) : CsI E f yX11_punch cX11_punch 11 yX12_punch cX12_punch 12 [.int (a 1), .int (a 2), .int (a 3)] [xI, xU] Inv := by
  obtain ⟨hN1, hN2, hB1, hB2, hg1, hg2⟩ := id hb
  have r := p_R E f N B gr hb hE hf
  have hm := p_M E f N B gr hb hE hf
  have hdv := p_D E f N B gr hb hE hf
  have hdo := d00_ok (N := N) (by omega)
  refine ⟨7, _, u_X11_punch E f _ 0 0 (by omega) hm (by decide) N (d00 N) 1 (-1) 0 0 (by omega) (by omega) hdv hdo (fun q => q.1 rfl) (a 1) (a 2) (a 3), by decide, ⟨_, hm.1⟩, fun v g h => h.elim, fun X g h => ⟨0, by rw [h.1]; rfl, ?_⟩⟩
  have rg : RfV E g (R00 N B gr) := r.of (fun k hk => h.2.2 k (fun q => by have := hk.1; unfold MnK at q; omega))
  exact ⟨3, _, u_X12_punch E g (R00 N B gr) 0 (by decide) rfl (fun k hk => absurd hk (by omega)) rfl (by omega) rg (a 1) (a 2) (a 3), by decide, ⟨_, rg.o⟩, fun X u h2 => h2, fun v u h2 => ⟨0, _, h2.1, h2.2.1, rfl, fun e => absurd e (by decide), hI _⟩⟩
set_option maxRecDepth 100000 in
set_option maxHeartbeats 400000 in
theorem p_hold (E : gE) (f : Nat → va_E) (N B gr : Nat) (hb : 128 ≤ N ∧ N ≤ 1024 ∧ 4 ≤ B ∧ B ≤ 64 ∧ 1 ≤ gr ∧ gr ≤ 16) (hE : gN E = 350 + 2 * N + B + gr * 40) (hf : FrV E f N B gr) (Inv : (Nat → va_E) → Prop) (hI : ∀ u, Inv u) (a : Nat → Int32) : CsI E f yX11_hold cX11_hold 2 yX12_hold cX12_hold 2 [.int (a 1)] [xI] Inv := by
  obtain ⟨hN1, hN2, hB1, hB2, hg1, hg2⟩ := id hb
  have r := p_R E f N B gr hb hE hf
  have hm := p_M E f N B gr hb hE hf
  have hdv := p_D E f N B gr hb hE hf
  have hdo := d00_ok (N := N) (by omega)
  refine ⟨7, _, u_X11_hold E f _ 0 0 (by omega) hm (by decide) N (d00 N) 1 (-1) 0 0 (by omega) (by omega) hdv hdo (fun q => q.1 rfl) (a 1), by decide, ⟨_, hm.1⟩, fun v g h => h.elim, fun X g h => ⟨0, by rw [h.1]; rfl, ?_⟩⟩
  have rg : RfV E g (R00 N B gr) := r.of (fun k hk => h.2.2 k (fun q => by have := hk.1; unfold MnK at q; omega))
  exact ⟨3, _, u_X12_hold E g (R00 N B gr) 0 (by decide) rfl (fun k hk => absurd hk (by omega)) rfl (by omega) rg (a 1), by decide, ⟨_, rg.o⟩, fun X u h2 => h2, fun v u h2 => ⟨0, _, h2.1, h2.2.1, rfl, fun e => absurd e (by decide), hI _⟩⟩
set_option maxRecDepth 100000 in
set_option maxHeartbeats 400000 in
theorem p_release (E : gE) (f : Nat → va_E) (N B gr : Nat) (hb : 128 ≤ N ∧ N ≤ 1024 ∧ 4 ≤ B ∧ B ≤ 64 ∧ 1 ≤ gr ∧ gr ≤ 16) (hE : gN E = 350 + 2 * N + B + gr * 40) (hf : FrV E f N B gr) (Inv : (Nat → va_E) → Prop) (hI : ∀ u, Inv u) (a : Nat → Int32) : CsI E f yX11_release cX11_release 3 yX12_release cX12_release 2 [.int (a 1)] [xI, xU] Inv := by
  obtain ⟨hN1, hN2, hB1, hB2, hg1, hg2⟩ := id hb
  have r := p_R E f N B gr hb hE hf
  have hm := p_M E f N B gr hb hE hf
  have hdv := p_D E f N B gr hb hE hf
  have hdo := d00_ok (N := N) (by omega)
  refine ⟨7, _, u_X11_release E f _ 0 0 (by omega) hm (by decide) N (d00 N) 1 (-1) 0 0 (by omega) (by omega) hdv hdo (fun q => q.1 rfl) (a 1), by decide, ⟨_, hm.1⟩, fun v g h => h.elim, fun X g h => ⟨0, by rw [h.1]; rfl, ?_⟩⟩
  have rg : RfV E g (R00 N B gr) := r.of (fun k hk => h.2.2 k (fun q => by have := hk.1; unfold MnK at q; omega))
  exact ⟨3, _, u_X12_release E g (R00 N B gr) 0 (by decide) rfl (fun k hk => absurd hk (by omega)) rfl (by omega) rg (a 1), by decide, ⟨_, rg.o⟩, fun X u h2 => h2, fun v u h2 => ⟨0, _, h2.1, h2.2.1, rfl, fun e => absurd e (by decide), hI _⟩⟩
set_option maxRecDepth 100000 in
set_option maxHeartbeats 400000 in
theorem p_read (E : gE) (f : Nat → va_E) (N B gr : Nat) (hb : 128 ≤ N ∧ N ≤ 1024 ∧ 4 ≤ B ∧ B ≤ 64 ∧ 1 ≤ gr ∧ gr ≤ 16) (hE : gN E = 350 + 2 * N + B + gr * 40) (hf : FrV E f N B gr) (Inv : (Nat → va_E) → Prop) (hI : ∀ u, Inv u) (a : Nat → Int32) : CsI E f yX11_read cX11_read 3 yX12_read cX12_read 4 [.int (a 1), .int (a 2)] [xI] Inv := by
  obtain ⟨hN1, hN2, hB1, hB2, hg1, hg2⟩ := id hb
  have r := p_R E f N B gr hb hE hf
  have hm := p_M E f N B gr hb hE hf
  have hdv := p_D E f N B gr hb hE hf
  have hdo := d00_ok (N := N) (by omega)
  refine ⟨7, _, u_X11_read E f _ 0 0 (by omega) hm (by decide) N (d00 N) 1 (-1) 0 0 (by omega) (by omega) hdv hdo (fun q => q.1 rfl) (a 1) (a 2), by decide, ⟨_, hm.1⟩, fun v g h => h.elim, fun X g h => ⟨0, by rw [h.1]; rfl, ?_⟩⟩
  have rg : RfV E g (R00 N B gr) := r.of (fun k hk => h.2.2 k (fun q => by have := hk.1; unfold MnK at q; omega))
  exact ⟨3, _, u_X12_read E g (R00 N B gr) 0 (by decide) rfl (fun k hk => absurd hk (by omega)) rfl (by omega) rg (a 1) (a 2), by decide, ⟨_, rg.o⟩, fun X u h2 => h2, fun v u h2 => ⟨0, _, h2.1, h2.2.1, rfl, fun e => absurd e (by decide), hI _⟩⟩
set_option maxRecDepth 100000 in
set_option maxHeartbeats 400000 in
theorem p_about (E : gE) (f : Nat → va_E) (N B gr : Nat) (hb : 128 ≤ N ∧ N ≤ 1024 ∧ 4 ≤ B ∧ B ≤ 64 ∧ 1 ≤ gr ∧ gr ≤ 16) (hE : gN E = 350 + 2 * N + B + gr * 40) (hf : FrV E f N B gr) (Inv : (Nat → va_E) → Prop) (hI : ∀ u, Inv u) (a : Nat → Int32) : CsI E f yX11_about cX11_about 4 yX12_about cX12_about 4 [.int (a 1), .int (a 2)] [xI, xA] Inv := by
  obtain ⟨hN1, hN2, hB1, hB2, hg1, hg2⟩ := id hb
  have r := p_R E f N B gr hb hE hf
  have hm := p_M E f N B gr hb hE hf
  have hdv := p_D E f N B gr hb hE hf
  have hdo := d00_ok (N := N) (by omega)
  refine ⟨7, _, u_X11_about E f _ 0 0 (by omega) hm (by decide) N (d00 N) 1 (-1) 0 0 (by omega) (by omega) hdv hdo (fun q => q.1 rfl) (a 1) (a 2), by decide, ⟨_, hm.1⟩, fun v g h => h.elim, fun X g h => ⟨0, by rw [h.1]; rfl, ?_⟩⟩
  have rg : RfV E g (R00 N B gr) := r.of (fun k hk => h.2.2 k (fun q => by have := hk.1; unfold MnK at q; omega))
  exact ⟨3, _, u_X12_about E g (R00 N B gr) 0 (by decide) rfl (fun k hk => absurd hk (by omega)) rfl (by omega) rg (a 1) (a 2), by decide, ⟨_, rg.o⟩, fun X u h2 => h2, fun v u h2 => ⟨0, _, h2.1, h2.2.1, rfl, fun e => absurd e (by decide), hI _⟩⟩
set_option maxRecDepth 100000 in
set_option maxHeartbeats 400000 in
theorem p_where (E : gE) (f : Nat → va_E) (N B gr : Nat) (hb : 128 ≤ N ∧ N ≤ 1024 ∧ 4 ≤ B ∧ B ≤ 64 ∧ 1 ≤ gr ∧ gr ≤ 16) (hE : gN E = 350 + 2 * N + B + gr * 40) (hf : FrV E f N B gr) (Inv : (Nat → va_E) → Prop) (hI : ∀ u, Inv u) (a : Nat → Int32) : CsI E f yX11_where cX11_where 3 yX12_where cX12_where 3 [.int (a 1), .int (a 2)] [xI, xA] Inv := by
  obtain ⟨hN1, hN2, hB1, hB2, hg1, hg2⟩ := id hb
  have r := p_R E f N B gr hb hE hf
  have hm := p_M E f N B gr hb hE hf
  have hdv := p_D E f N B gr hb hE hf
  have hdo := d00_ok (N := N) (by omega)
  refine ⟨7, _, u_X11_where E f _ 0 0 (by omega) hm (by decide) N (d00 N) 1 (-1) 0 0 (by omega) (by omega) hdv hdo (fun q => q.1 rfl) (a 1) (a 2), by decide, ⟨_, hm.1⟩, fun v g h => h.elim, fun X g h => ⟨0, by rw [h.1]; rfl, ?_⟩⟩
  have rg : RfV E g (R00 N B gr) := r.of (fun k hk => h.2.2 k (fun q => by have := hk.1; unfold MnK at q; omega))
  exact ⟨3, _, u_X12_where E g (R00 N B gr) 0 (by decide) rfl (fun k hk => absurd hk (by omega)) rfl (by omega) rg (a 1) (a 2), by decide, ⟨_, rg.o⟩, fun X u h2 => h2, fun v u h2 => ⟨0, _, h2.1, h2.2.1, rfl, fun e => absurd e (by decide), hI _⟩⟩
set_option maxRecDepth 100000 in
set_option maxHeartbeats 400000 in
theorem p_entry (E : gE) (f : Nat → va_E) (N B gr : Nat) (hb : 128 ≤ N ∧ N ≤ 1024 ∧ 4 ≤ B ∧ B ≤ 64 ∧ 1 ≤ gr ∧ gr ≤ 16) (hE : gN E = 350 + 2 * N + B + gr * 40) (hf : FrV E f N B gr) (Inv : (Nat → va_E) → Prop) (hI : ∀ u, Inv u) (a : Nat → Int32) : CsI E f yX11_entry cX11_entry 4 yX12_entry cX12_entry 4 [.int (a 1), .int (a 2)] [xI, xN] Inv := by
  obtain ⟨hN1, hN2, hB1, hB2, hg1, hg2⟩ := id hb
  have r := p_R E f N B gr hb hE hf
  have hm := p_M E f N B gr hb hE hf
  have hdv := p_D E f N B gr hb hE hf
  have hdo := d00_ok (N := N) (by omega)
  refine ⟨7, _, u_X11_entry E f _ 0 0 (by omega) hm (by decide) N (d00 N) 1 (-1) 0 0 (by omega) (by omega) hdv hdo (fun q => q.1 rfl) (a 1) (a 2), by decide, ⟨_, hm.1⟩, fun v g h => h.elim, fun X g h => ⟨0, by rw [h.1]; rfl, ?_⟩⟩
  have rg : RfV E g (R00 N B gr) := r.of (fun k hk => h.2.2 k (fun q => by have := hk.1; unfold MnK at q; omega))
  exact ⟨3, _, u_X12_entry E g (R00 N B gr) 0 (by decide) rfl (fun k hk => absurd hk (by omega)) rfl (by omega) rg (a 1) (a 2), by decide, ⟨_, rg.o⟩, fun X u h2 => h2, fun v u h2 => ⟨0, _, h2.1, h2.2.1, rfl, fun e => absurd e (by decide), hI _⟩⟩
set_option maxRecDepth 100000 in
set_option maxHeartbeats 400000 in
theorem p_letter (E : gE) (f : Nat → va_E) (N B gr : Nat) (hb : 128 ≤ N ∧ N ≤ 1024 ∧ 4 ≤ B ∧ B ≤ 64 ∧ 1 ≤ gr ∧ gr ≤ 16) (hE : gN E = 350 + 2 * N + B + gr * 40) (hf : FrV E f N B gr) (Inv : (Nat → va_E) → Prop) (hI : ∀ u, Inv u) (a : Nat → Int32) : CsI E f yX11_letter cX11_letter 5 yX12_letter cX12_letter 5 [.int (a 1), .int (a 2), .int (a 3)] [xI, xN] Inv := by
  obtain ⟨hN1, hN2, hB1, hB2, hg1, hg2⟩ := id hb
  have r := p_R E f N B gr hb hE hf
  have hm := p_M E f N B gr hb hE hf
  have hdv := p_D E f N B gr hb hE hf
  have hdo := d00_ok (N := N) (by omega)
  refine ⟨7, _, u_X11_letter E f _ 0 0 (by omega) hm (by decide) N (d00 N) 1 (-1) 0 0 (by omega) (by omega) hdv hdo (fun q => q.1 rfl) (a 1) (a 2) (a 3), by decide, ⟨_, hm.1⟩, fun v g h => h.elim, fun X g h => ⟨0, by rw [h.1]; rfl, ?_⟩⟩
  have rg : RfV E g (R00 N B gr) := r.of (fun k hk => h.2.2 k (fun q => by have := hk.1; unfold MnK at q; omega))
  exact ⟨3, _, u_X12_letter E g (R00 N B gr) 0 (by decide) rfl (fun k hk => absurd hk (by omega)) rfl (by omega) rg (a 1) (a 2) (a 3), by decide, ⟨_, rg.o⟩, fun X u h2 => h2, fun v u h2 => ⟨0, _, h2.1, h2.2.1, rfl, fun e => absurd e (by decide), hI _⟩⟩
set_option maxRecDepth 100000 in
set_option maxHeartbeats 400000 in
theorem p_open (E : gE) (f : Nat → va_E) (N B gr : Nat) (hb : 128 ≤ N ∧ N ≤ 1024 ∧ 4 ≤ B ∧ B ≤ 64 ∧ 1 ≤ gr ∧ gr ≤ 16) (hE : gN E = 350 + 2 * N + B + gr * 40) (hf : FrV E f N B gr) (Inv : (Nat → va_E) → Prop) (hI : ∀ u, Inv u) (a : Nat → Int32) : CsI E f yX11_open cX11_open 9 yX12_open cX12_open 9 [.int (a 1)] [xI, xU, xA] Inv := by
  obtain ⟨hN1, hN2, hB1, hB2, hg1, hg2⟩ := id hb
  have r := p_R E f N B gr hb hE hf
  have hm := p_M E f N B gr hb hE hf
  have hdv := p_D E f N B gr hb hE hf
  have hdo := d00_ok (N := N) (by omega)
  refine ⟨7, _, u_X11_open E f _ 0 0 (by omega) hm (by decide) N (d00 N) 1 (-1) 0 0 (by omega) (by omega) hdv hdo (fun q => q.1 rfl) (a 1), by decide, ⟨_, hm.1⟩, fun v g h => h.elim, fun X g h => ⟨0, by rw [h.1]; rfl, ?_⟩⟩
  have rg : RfV E g (R00 N B gr) := r.of (fun k hk => h.2.2 k (fun q => by have := hk.1; unfold MnK at q; omega))
  exact ⟨3, _, u_X12_open E g (R00 N B gr) 0 (by decide) rfl (fun k hk => absurd hk (by omega)) rfl (by omega) rg (a 1), by decide, ⟨_, rg.o⟩, fun X u h2 => h2, fun v u h2 => ⟨0, _, h2.1, h2.2.1, rfl, fun e => absurd e (by decide), hI _⟩⟩
set_option maxRecDepth 100000 in
set_option maxHeartbeats 400000 in
theorem p_close (E : gE) (f : Nat → va_E) (N B gr : Nat) (hb : 128 ≤ N ∧ N ≤ 1024 ∧ 4 ≤ B ∧ B ≤ 64 ∧ 1 ≤ gr ∧ gr ≤ 16) (hE : gN E = 350 + 2 * N + B + gr * 40) (hf : FrV E f N B gr) (Inv : (Nat → va_E) → Prop) (hI : ∀ u, Inv u) (a : Nat → Int32) : CsI E f yX11_close cX11_close 3 yX12_close cX12_close 3 [.int (a 1)] [xI, xU] Inv := by
  obtain ⟨hN1, hN2, hB1, hB2, hg1, hg2⟩ := id hb
  have r := p_R E f N B gr hb hE hf
  have hm := p_M E f N B gr hb hE hf
  have hdv := p_D E f N B gr hb hE hf
  have hdo := d00_ok (N := N) (by omega)
  refine ⟨7, _, u_X11_close E f _ 0 0 (by omega) hm (by decide) N (d00 N) 1 (-1) 0 0 (by omega) (by omega) hdv hdo (fun q => q.1 rfl) (a 1), by decide, ⟨_, hm.1⟩, fun v g h => h.elim, fun X g h => ⟨0, by rw [h.1]; rfl, ?_⟩⟩
  have rg : RfV E g (R00 N B gr) := r.of (fun k hk => h.2.2 k (fun q => by have := hk.1; unfold MnK at q; omega))
  exact ⟨3, _, u_X12_close E g (R00 N B gr) 0 (by decide) rfl (fun k hk => absurd hk (by omega)) rfl (by omega) rg (a 1), by decide, ⟨_, rg.o⟩, fun X u h2 => h2, fun v u h2 => ⟨0, _, h2.1, h2.2.1, rfl, fun e => absurd e (by decide), hI _⟩⟩
set_option maxRecDepth 100000 in
set_option maxHeartbeats 400000 in
theorem p_put (E : gE) (f : Nat → va_E) (N B gr : Nat) (hb : 128 ≤ N ∧ N ≤ 1024 ∧ 4 ≤ B ∧ B ≤ 64 ∧ 1 ≤ gr ∧ gr ≤ 16) (hE : gN E = 350 + 2 * N + B + gr * 40) (hf : FrV E f N B gr) (Inv : (Nat → va_E) → Prop) (hI : ∀ u, Inv u) (a : Nat → Int32) : CsI E f yX11_put cX11_put 6 yX12_put cX12_put 5 [.int (a 1)] [xI, xU] Inv := by
  obtain ⟨hN1, hN2, hB1, hB2, hg1, hg2⟩ := id hb
  have r := p_R E f N B gr hb hE hf
  have hm := p_M E f N B gr hb hE hf
  have hdv := p_D E f N B gr hb hE hf
  have hdo := d00_ok (N := N) (by omega)
  refine ⟨7, _, u_X11_put E f _ 0 0 (by omega) hm (by decide) N (d00 N) 1 (-1) 0 0 (by omega) (by omega) hdv hdo (fun q => q.1 rfl) (a 1), by decide, ⟨_, hm.1⟩, fun v g h => h.elim, fun X g h => ⟨0, by rw [h.1]; rfl, ?_⟩⟩
  have rg : RfV E g (R00 N B gr) := r.of (fun k hk => h.2.2 k (fun q => by have := hk.1; unfold MnK at q; omega))
  exact ⟨3, _, u_X12_put E g (R00 N B gr) 0 (by decide) rfl (fun k hk => absurd hk (by omega)) rfl (by omega) rg (a 1), by decide, ⟨_, rg.o⟩, fun X u h2 => h2, fun v u h2 => ⟨0, _, h2.1, h2.2.1, rfl, fun e => absurd e (by decide), hI _⟩⟩
set_option maxRecDepth 100000 in
set_option maxHeartbeats 400000 in
theorem p_get (E : gE) (f : Nat → va_E) (N B gr : Nat) (hb : 128 ≤ N ∧ N ≤ 1024 ∧ 4 ≤ B ∧ B ≤ 64 ∧ 1 ≤ gr ∧ gr ≤ 16) (hE : gN E = 350 + 2 * N + B + gr * 40) (hf : FrV E f N B gr) (Inv : (Nat → va_E) → Prop) (hI : ∀ u, Inv u) (a : Nat → Int32) : CsI E f yX11_get cX11_get 3 yX12_get cX12_get 4 [.int (a 1)] [xI] Inv := by
  obtain ⟨hN1, hN2, hB1, hB2, hg1, hg2⟩ := id hb
  have r := p_R E f N B gr hb hE hf
  have hm := p_M E f N B gr hb hE hf
  have hdv := p_D E f N B gr hb hE hf
  have hdo := d00_ok (N := N) (by omega)
  refine ⟨7, _, u_X11_get E f _ 0 0 (by omega) hm (by decide) N (d00 N) 1 (-1) 0 0 (by omega) (by omega) hdv hdo (fun q => q.1 rfl) (a 1), by decide, ⟨_, hm.1⟩, fun v g h => h.elim, fun X g h => ⟨0, by rw [h.1]; rfl, ?_⟩⟩
  have rg : RfV E g (R00 N B gr) := r.of (fun k hk => h.2.2 k (fun q => by have := hk.1; unfold MnK at q; omega))
  exact ⟨3, _, u_X12_get E g (R00 N B gr) 0 (by decide) rfl (fun k hk => absurd hk (by omega)) rfl (by omega) rg (a 1), by decide, ⟨_, rg.o⟩, fun X u h2 => h2, fun v u h2 => ⟨0, _, h2.1, h2.2.1, rfl, fun e => absurd e (by decide), hI _⟩⟩
set_option maxRecDepth 100000 in
set_option maxHeartbeats 400000 in
theorem p_seek (E : gE) (f : Nat → va_E) (N B gr : Nat) (hb : 128 ≤ N ∧ N ≤ 1024 ∧ 4 ≤ B ∧ B ≤ 64 ∧ 1 ≤ gr ∧ gr ≤ 16) (hE : gN E = 350 + 2 * N + B + gr * 40) (hf : FrV E f N B gr) (Inv : (Nat → va_E) → Prop) (hI : ∀ u, Inv u) (a : Nat → Int32) : CsI E f yX11_seek cX11_seek 4 yX12_seek cX12_seek 4 [.int (a 1), .int (a 2)] [xI] Inv := by
  obtain ⟨hN1, hN2, hB1, hB2, hg1, hg2⟩ := id hb
  have r := p_R E f N B gr hb hE hf
  have hm := p_M E f N B gr hb hE hf
  have hdv := p_D E f N B gr hb hE hf
  have hdo := d00_ok (N := N) (by omega)
  refine ⟨7, _, u_X11_seek E f _ 0 0 (by omega) hm (by decide) N (d00 N) 1 (-1) 0 0 (by omega) (by omega) hdv hdo (fun q => q.1 rfl) (a 1) (a 2), by decide, ⟨_, hm.1⟩, fun v g h => h.elim, fun X g h => ⟨0, by rw [h.1]; rfl, ?_⟩⟩
  have rg : RfV E g (R00 N B gr) := r.of (fun k hk => h.2.2 k (fun q => by have := hk.1; unfold MnK at q; omega))
  exact ⟨3, _, u_X12_seek E g (R00 N B gr) 0 (by decide) rfl (fun k hk => absurd hk (by omega)) rfl (by omega) rg (a 1) (a 2), by decide, ⟨_, rg.o⟩, fun X u h2 => h2, fun v u h2 => ⟨0, _, h2.1, h2.2.1, rfl, fun e => absurd e (by decide), hI _⟩⟩
set_option maxRecDepth 100000 in
set_option maxHeartbeats 400000 in
theorem p_look (E : gE) (f : Nat → va_E) (N B gr : Nat) (hb : 128 ≤ N ∧ N ≤ 1024 ∧ 4 ≤ B ∧ B ≤ 64 ∧ 1 ≤ gr ∧ gr ≤ 16) (hE : gN E = 350 + 2 * N + B + gr * 40) (hf : FrV E f N B gr) (Inv : (Nat → va_E) → Prop) (hI : ∀ u, Inv u) (a : Nat → Int32) : CsI E f yX11_look cX11_look 3 yX12_look cX12_look 3 [.int (a 1), .int (a 2)] [xI, xA] Inv := by
  obtain ⟨hN1, hN2, hB1, hB2, hg1, hg2⟩ := id hb
  have r := p_R E f N B gr hb hE hf
  have hm := p_M E f N B gr hb hE hf
  have hdv := p_D E f N B gr hb hE hf
  have hdo := d00_ok (N := N) (by omega)
  refine ⟨7, _, u_X11_look E f _ 0 0 (by omega) hm (by decide) N (d00 N) 1 (-1) 0 0 (by omega) (by omega) hdv hdo (fun q => q.1 rfl) (a 1) (a 2), by decide, ⟨_, hm.1⟩, fun v g h => h.elim, fun X g h => ⟨0, by rw [h.1]; rfl, ?_⟩⟩
  have rg : RfV E g (R00 N B gr) := r.of (fun k hk => h.2.2 k (fun q => by have := hk.1; unfold MnK at q; omega))
  exact ⟨3, _, u_X12_look E g (R00 N B gr) 0 (by decide) rfl (fun k hk => absurd hk (by omega)) rfl (by omega) rg (a 1) (a 2), by decide, ⟨_, rg.o⟩, fun X u h2 => h2, fun v u h2 => ⟨0, _, h2.1, h2.2.1, rfl, fun e => absurd e (by decide), hI _⟩⟩
set_option maxRecDepth 100000 in
set_option maxHeartbeats 400000 in
theorem p_begin (E : gE) (f : Nat → va_E) (N B gr : Nat) (hb : 128 ≤ N ∧ N ≤ 1024 ∧ 4 ≤ B ∧ B ≤ 64 ∧ 1 ≤ gr ∧ gr ≤ 16) (hE : gN E = 350 + 2 * N + B + gr * 40) (hf : FrV E f N B gr) (Inv : (Nat → va_E) → Prop) (hI : ∀ u, Inv u) (a : Nat → Int32) : CsB E f yX11_begin cX11_begin 1 yX12_begin cX12_begin 1 [] [xI] Inv := by
  obtain ⟨hN1, hN2, hB1, hB2, hg1, hg2⟩ := id hb
  have r := p_R E f N B gr hb hE hf
  have hm := p_M E f N B gr hb hE hf
  have hdv := p_D E f N B gr hb hE hf
  have hdo := d00_ok (N := N) (by omega)
  refine ⟨7, _, u_X11_begin E f _ 0 0 (by omega) hm (by decide) N (d00 N) 1 (-1) 0 0 (by omega) (by omega) hdv hdo (fun q => q.1 rfl) , by decide, ⟨_, hm.1⟩, fun v g h => h.elim, fun X g h => ⟨0, by rw [h.1]; rfl, ?_⟩⟩
  have rg : RfV E g (R00 N B gr) := r.of (fun k hk => h.2.2 k (fun q => by have := hk.1; unfold MnK at q; omega))
  exact ⟨3, _, u_X12_begin E g (R00 N B gr) 0 (by decide) rfl (fun k hk => absurd hk (by omega)) rfl (by omega) rg , by decide, ⟨_, rg.o⟩, fun X u h2 => h2, fun v u h2 => ⟨0, _, h2.1, h2.2.1, rfl, fun e => absurd e (by decide), hI _⟩⟩
set_option maxRecDepth 100000 in
set_option maxHeartbeats 400000 in
theorem p_end (E : gE) (f : Nat → va_E) (N B gr : Nat) (hb : 128 ≤ N ∧ N ≤ 1024 ∧ 4 ≤ B ∧ B ≤ 64 ∧ 1 ≤ gr ∧ gr ≤ 16) (hE : gN E = 350 + 2 * N + B + gr * 40) (hf : FrV E f N B gr) (Inv : (Nat → va_E) → Prop) (hI : ∀ u, Inv u) (a : Nat → Int32) : CsI E f yX11_end cX11_end 2 yX12_end cX12_end 2 [] [xI, xU] Inv := by
  obtain ⟨hN1, hN2, hB1, hB2, hg1, hg2⟩ := id hb
  have r := p_R E f N B gr hb hE hf
  have hm := p_M E f N B gr hb hE hf
  have hdv := p_D E f N B gr hb hE hf
  have hdo := d00_ok (N := N) (by omega)
  refine ⟨7, _, u_X11_end E f _ 0 0 (by omega) hm (by decide) N (d00 N) 1 (-1) 0 0 (by omega) (by omega) hdv hdo (fun q => q.1 rfl) , by decide, ⟨_, hm.1⟩, fun v g h => h.elim, fun X g h => ⟨0, by rw [h.1]; rfl, ?_⟩⟩
  have rg : RfV E g (R00 N B gr) := r.of (fun k hk => h.2.2 k (fun q => by have := hk.1; unfold MnK at q; omega))
  exact ⟨3, _, u_X12_end E g (R00 N B gr) 0 (by decide) rfl (fun k hk => absurd hk (by omega)) rfl (by omega) rg , by decide, ⟨_, rg.o⟩, fun X u h2 => h2, fun v u h2 => ⟨0, _, h2.1, h2.2.1, rfl, fun e => absurd e (by decide), hI _⟩⟩
set_option maxRecDepth 100000 in
set_option maxHeartbeats 400000 in
theorem p_undo (E : gE) (f : Nat → va_E) (N B gr : Nat) (hb : 128 ≤ N ∧ N ≤ 1024 ∧ 4 ≤ B ∧ B ≤ 64 ∧ 1 ≤ gr ∧ gr ≤ 16) (hE : gN E = 350 + 2 * N + B + gr * 40) (hf : FrV E f N B gr) (Inv : (Nat → va_E) → Prop) (hI : ∀ u, Inv u) (a : Nat → Int32) : CsI E f yX11_undo cX11_undo 1 yX12_undo cX12_undo 1 [] [xI, xU] Inv := by
  obtain ⟨hN1, hN2, hB1, hB2, hg1, hg2⟩ := id hb
  have r := p_R E f N B gr hb hE hf
  have hm := p_M E f N B gr hb hE hf
  have hdv := p_D E f N B gr hb hE hf
  have hdo := d00_ok (N := N) (by omega)
  refine ⟨7, _, u_X11_undo E f _ 0 0 (by omega) hm (by decide) N (d00 N) 1 (-1) 0 0 (by omega) (by omega) hdv hdo (fun q => q.1 rfl) , by decide, ⟨_, hm.1⟩, fun v g h => h.elim, fun X g h => ⟨0, by rw [h.1]; rfl, ?_⟩⟩
  have rg : RfV E g (R00 N B gr) := r.of (fun k hk => h.2.2 k (fun q => by have := hk.1; unfold MnK at q; omega))
  exact ⟨3, _, u_X12_undo E g (R00 N B gr) 0 (by decide) rfl (fun k hk => absurd hk (by omega)) rfl (by omega) rg , by decide, ⟨_, rg.o⟩, fun X u h2 => h2, fun v u h2 => ⟨0, _, h2.1, h2.2.1, rfl, fun e => absurd e (by decide), hI _⟩⟩
set_option maxRecDepth 100000 in
set_option maxHeartbeats 400000 in
theorem p_flush (E : gE) (f : Nat → va_E) (N B gr : Nat) (hb : 128 ≤ N ∧ N ≤ 1024 ∧ 4 ≤ B ∧ B ≤ 64 ∧ 1 ≤ gr ∧ gr ≤ 16) (hE : gN E = 350 + 2 * N + B + gr * 40) (hf : FrV E f N B gr) (Inv : (Nat → va_E) → Prop) (hI : ∀ u, Inv u) (a : Nat → Int32) : CsI E f yX11_flush cX11_flush 1 yX12_flush cX12_flush 1 [] [xI, xU] Inv := by
  obtain ⟨hN1, hN2, hB1, hB2, hg1, hg2⟩ := id hb
  have r := p_R E f N B gr hb hE hf
  have hm := p_M E f N B gr hb hE hf
  have hdv := p_D E f N B gr hb hE hf
  have hdo := d00_ok (N := N) (by omega)
  refine ⟨7, _, u_X11_flush E f _ 0 0 (by omega) hm (by decide) N (d00 N) 1 (-1) 0 0 (by omega) (by omega) hdv hdo (fun q => q.1 rfl) , by decide, ⟨_, hm.1⟩, fun v g h => h.elim, fun X g h => ⟨0, by rw [h.1]; rfl, ?_⟩⟩
  have rg : RfV E g (R00 N B gr) := r.of (fun k hk => h.2.2 k (fun q => by have := hk.1; unfold MnK at q; omega))
  exact ⟨3, _, u_X12_flush E g (R00 N B gr) 0 (by decide) rfl (fun k hk => absurd hk (by omega)) rfl (by omega) rg , by decide, ⟨_, rg.o⟩, fun X u h2 => h2, fun v u h2 => ⟨0, _, h2.1, h2.2.1, rfl, fun e => absurd e (by decide), hI _⟩⟩
set_option maxRecDepth 100000 in
set_option maxHeartbeats 400000 in
theorem p_sync (E : gE) (f : Nat → va_E) (N B gr : Nat) (hb : 128 ≤ N ∧ N ≤ 1024 ∧ 4 ≤ B ∧ B ≤ 64 ∧ 1 ≤ gr ∧ gr ≤ 16) (hE : gN E = 350 + 2 * N + B + gr * 40) (hf : FrV E f N B gr) (Inv : (Nat → va_E) → Prop) (hI : ∀ u, Inv u) (a : Nat → Int32) : CsI E f yX11_sync cX11_sync 6 yX12_sync cX12_sync 7 [.int (a 1)] [xI, xU] Inv := by
  obtain ⟨hN1, hN2, hB1, hB2, hg1, hg2⟩ := id hb
  have r := p_R E f N B gr hb hE hf
  have hm := p_M E f N B gr hb hE hf
  have hdv := p_D E f N B gr hb hE hf
  have hdo := d00_ok (N := N) (by omega)
  refine ⟨7, _, u_X11_sync E f _ 0 0 (by omega) hm (by decide) N (d00 N) 1 (-1) 0 0 (by omega) (by omega) hdv hdo (fun q => q.1 rfl) (a 1), by decide, ⟨_, hm.1⟩, fun v g h => h.elim, fun X g h => ⟨0, by rw [h.1]; rfl, ?_⟩⟩
  have rg : RfV E g (R00 N B gr) := r.of (fun k hk => h.2.2 k (fun q => by have := hk.1; unfold MnK at q; omega))
  exact ⟨3, _, u_X12_sync E g (R00 N B gr) 0 (by decide) rfl (fun k hk => absurd hk (by omega)) rfl (by omega) rg (a 1), by decide, ⟨_, rg.o⟩, fun X u h2 => h2, fun v u h2 => ⟨0, _, h2.1, h2.2.1, rfl, fun e => absurd e (by decide), hI _⟩⟩
set_option maxRecDepth 100000 in
set_option maxHeartbeats 400000 in
theorem p_apply (E : gE) (f : Nat → va_E) (N B gr : Nat) (hb : 128 ≤ N ∧ N ≤ 1024 ∧ 4 ≤ B ∧ B ≤ 64 ∧ 1 ≤ gr ∧ gr ≤ 16) (hE : gN E = 350 + 2 * N + B + gr * 40) (hf : FrV E f N B gr) (Inv : (Nat → va_E) → Prop) (hI : ∀ u, Inv u) (a : Nat → Int32) : CsI E f yX11_apply cX11_apply 2 yX12_apply cX12_apply 2 [] [xI, xU] Inv := by
  obtain ⟨hN1, hN2, hB1, hB2, hg1, hg2⟩ := id hb
  have r := p_R E f N B gr hb hE hf
  have hm := p_M E f N B gr hb hE hf
  have hdv := p_D E f N B gr hb hE hf
  have hdo := d00_ok (N := N) (by omega)
  refine ⟨7, _, u_X11_apply E f _ 0 0 (by omega) hm (by decide) N (d00 N) 1 (-1) 0 0 (by omega) (by omega) hdv hdo (fun q => q.1 rfl) , by decide, ⟨_, hm.1⟩, fun v g h => h.elim, fun X g h => ⟨0, by rw [h.1]; rfl, ?_⟩⟩
  have rg : RfV E g (R00 N B gr) := r.of (fun k hk => h.2.2 k (fun q => by have := hk.1; unfold MnK at q; omega))
  exact ⟨3, _, u_X12_apply E g (R00 N B gr) 0 (by decide) rfl (fun k hk => absurd hk (by omega)) rfl (by omega) rg , by decide, ⟨_, rg.o⟩, fun X u h2 => h2, fun v u h2 => ⟨0, _, h2.1, h2.2.1, rfl, fun e => absurd e (by decide), hI _⟩⟩
set_option maxRecDepth 100000 in
set_option maxHeartbeats 400000 in
theorem p_seen (E : gE) (f : Nat → va_E) (N B gr : Nat) (hb : 128 ≤ N ∧ N ≤ 1024 ∧ 4 ≤ B ∧ B ≤ 64 ∧ 1 ≤ gr ∧ gr ≤ 16) (hE : gN E = 350 + 2 * N + B + gr * 40) (hf : FrV E f N B gr) (Inv : (Nat → va_E) → Prop) (hI : ∀ u, Inv u) (a : Nat → Int32) : CsI E f yX11_seen cX11_seen 3 yX12_seen cX12_seen 3 [.int (a 1), .int (a 2)] [xI, xN] Inv := by
  obtain ⟨hN1, hN2, hB1, hB2, hg1, hg2⟩ := id hb
  have r := p_R E f N B gr hb hE hf
  have hm := p_M E f N B gr hb hE hf
  have hdv := p_D E f N B gr hb hE hf
  have hdo := d00_ok (N := N) (by omega)
  refine ⟨7, _, u_X11_seen E f _ 0 0 (by omega) hm (by decide) N (d00 N) 1 (-1) 0 0 (by omega) (by omega) hdv hdo (fun q => q.1 rfl) (a 1) (a 2), by decide, ⟨_, hm.1⟩, fun v g h => h.elim, fun X g h => ⟨0, by rw [h.1]; rfl, ?_⟩⟩
  have rg : RfV E g (R00 N B gr) := r.of (fun k hk => h.2.2 k (fun q => by have := hk.1; unfold MnK at q; omega))
  exact ⟨3, _, u_X12_seen E g (R00 N B gr) 0 (by decide) rfl (fun k hk => absurd hk (by omega)) rfl (by omega) rg (a 1) (a 2), by decide, ⟨_, rg.o⟩, fun X u h2 => h2, fun v u h2 => ⟨0, _, h2.1, h2.2.1, rfl, fun e => absurd e (by decide), hI _⟩⟩
set_option maxRecDepth 100000 in
set_option maxHeartbeats 400000 in
theorem p_tree (E : gE) (f : Nat → va_E) (N B gr : Nat) (hb : 128 ≤ N ∧ N ≤ 1024 ∧ 4 ≤ B ∧ B ≤ 64 ∧ 1 ≤ gr ∧ gr ≤ 16) (hE : gN E = 350 + 2 * N + B + gr * 40) (hf : FrV E f N B gr) (Inv : (Nat → va_E) → Prop) (hI : ∀ u, Inv u) (a : Nat → Int32) : CsJ E f yX11_tree cX11_tree 10 yX12_tree cX12_tree 2 [.int (sB (a 1))] [xI] Inv := by
  obtain ⟨hN1, hN2, hB1, hB2, hg1, hg2⟩ := id hb
  have r := p_R E f N B gr hb hE hf
  have hm := p_M E f N B gr hb hE hf
  have hdv := p_D E f N B gr hb hE hf
  have hdo := d00_ok (N := N) (by omega)
  refine ⟨7, _, u_X11_tree E f _ 0 0 (by omega) hm (by decide) N (d00 N) 1 (-1) 0 0 (by omega) (by omega) hdv hdo (fun q => q.1 rfl) (sB (a 1)), by decide, ⟨_, hm.1⟩, fun v g h => h.elim, fun X g h => ⟨0, by rw [h.1]; rfl, ?_⟩⟩
  have rg : RfV E g (R00 N B gr) := r.of (fun k hk => h.2.2 k (fun q => by have := hk.1; unfold MnK at q; omega))
  exact ⟨3, _, u_X12_tree E g (R00 N B gr) 0 (by decide) rfl (fun k hk => absurd hk (by omega)) rfl (by omega) rg (sB (a 1)), by decide, ⟨_, rg.o⟩, fun X u h2 => h2, fun v u h2 => ⟨0, _, h2.1, h2.2.1, rfl, fun e => absurd e (by decide), hI _⟩⟩
set_option maxRecDepth 100000 in
set_option maxHeartbeats 400000 in
theorem p_check (E : gE) (f : Nat → va_E) (N B gr : Nat) (hb : 128 ≤ N ∧ N ≤ 1024 ∧ 4 ≤ B ∧ B ≤ 64 ∧ 1 ≤ gr ∧ gr ≤ 16) (hE : gN E = 350 + 2 * N + B + gr * 40) (hf : FrV E f N B gr) (Inv : (Nat → va_E) → Prop) (hI : ∀ u, Inv u) (a : Nat → Int32) : CsI E f yX11_check cX11_check 1 yX12_check cX12_check 2 [] [xI] Inv := by
  obtain ⟨hN1, hN2, hB1, hB2, hg1, hg2⟩ := id hb
  have r := p_R E f N B gr hb hE hf
  have hm := p_M E f N B gr hb hE hf
  have hdv := p_D E f N B gr hb hE hf
  have hdo := d00_ok (N := N) (by omega)
  refine ⟨7, _, u_X11_check E f _ 0 0 (by omega) hm (by decide) N (d00 N) 1 (-1) 0 0 (by omega) (by omega) hdv hdo (fun q => q.1 rfl) , by decide, ⟨_, hm.1⟩, fun v g h => h.elim, fun X g h => ⟨0, by rw [h.1]; rfl, ?_⟩⟩
  have rg : RfV E g (R00 N B gr) := r.of (fun k hk => h.2.2 k (fun q => by have := hk.1; unfold MnK at q; omega))
  exact ⟨3, _, u_X12_check E g (R00 N B gr) 0 (by decide) rfl (fun k hk => absurd hk (by omega)) rfl (by omega) rg , by decide, ⟨_, rg.o⟩, fun X u h2 => h2, fun v u h2 => ⟨0, _, h2.1, h2.2.1, rfl, fun e => absurd e (by decide), hI _⟩⟩
set_option maxRecDepth 100000 in
set_option maxHeartbeats 400000 in
theorem p_feed (E : gE) (f : Nat → va_E) (N B gr : Nat) (hb : 128 ≤ N ∧ N ≤ 1024 ∧ 4 ≤ B ∧ B ≤ 64 ∧ 1 ≤ gr ∧ gr ≤ 16) (hE : gN E = 350 + 2 * N + B + gr * 40) (hf : FrV E f N B gr) (Inv : (Nat → va_E) → Prop) (hI : ∀ u, Inv u) (a : Nat → Int32) : CsF E f yX11_feed cX11_feed 6 yX12_feed cX12_feed 8 [.int (a 1), .int (a 2), .int (a 3), .int (a 4), .int (a 5)] Inv := by
  obtain ⟨hN1, hN2, hB1, hB2, hg1, hg2⟩ := id hb
  have r := p_R E f N B gr hb hE hf
  have hm := p_M E f N B gr hb hE hf
  have hdv := p_D E f N B gr hb hE hf
  have hdo := d00_ok (N := N) (by omega)
  refine ⟨2, _, c_X11_feed E f _ 0 0 (by omega) hm (by decide) _ _ _ _ _, by decide, ⟨_, hm.1⟩, fun X g h => h, fun v g h => ?_⟩
  rcases h with ⟨h1, -⟩ | ⟨-, rfl, hmn, hfr⟩
  · exact absurd h1 (by decide)
  · have rg : RfV E g (R00 N B gr) := r.of (fun k hk => hfr k (fun q => by have := hk.1; unfold MnK at q; omega))
    refine ⟨_, rfl, 1, _, c_X12_feed E g (R00 N B gr) 0 rfl (by decide) (by omega) rg _ _ _ _ _, by decide, ⟨_, rg.o⟩, fun X u h => h, fun v u h => ?_⟩
    rcases h with ⟨h1, -⟩ | ⟨-, rfl, -⟩
    · exact absurd h1 (by decide)
    · exact ⟨rfl, hI _⟩
set_option maxRecDepth 100000 in
set_option maxHeartbeats 400000 in
theorem p_back (E : gE) (f : Nat → va_E) (N B gr : Nat) (hb : 128 ≤ N ∧ N ≤ 1024 ∧ 4 ≤ B ∧ B ≤ 64 ∧ 1 ≤ gr ∧ gr ≤ 16) (hE : gN E = 350 + 2 * N + B + gr * 40) (hf : FrV E f N B gr) (Inv : (Nat → va_E) → Prop) (hI : ∀ u, Inv u) (a : Nat → Int32) : CsF E f yX11_back cX11_back 2 yX12_back cX12_back 2 [.int (a 1)] Inv := by
  obtain ⟨hN1, hN2, hB1, hB2, hg1, hg2⟩ := id hb
  have r := p_R E f N B gr hb hE hf
  have hm := p_M E f N B gr hb hE hf
  have hdv := p_D E f N B gr hb hE hf
  have hdo := d00_ok (N := N) (by omega)
  refine ⟨1, _, c_X11_back E f _ 0 0 (by omega) hm (by decide) (a 1), by decide, ⟨_, hm.1⟩, fun X g h => h, fun v g h => ?_⟩
  rcases h with ⟨hx, rfl, rfl⟩ | ⟨t, ht, hx, rfl, hmn, hfr⟩
  · refine ⟨_, rfl, 1, _, c_X12_back E f (R00 N B gr) (by omega) r 0 rfl (by decide) (a 1), by decide, ⟨_, r.o⟩, fun X u h => h, fun v u h => ?_⟩
    rcases h with ⟨-, rfl, -⟩ | ⟨t, ht, hx2, -⟩
    · exact ⟨rfl, hI _⟩
    · have e : t = 0 := by omega
      subst e
      rw [hx2] at hx
      exact absurd hx (by decide)
  · have rg : RfV E g (R00 N B gr) := r.of (fun k hk => hfr k (fun q => by have := hk.1; unfold MnK at q; omega))
    have e : t = 0 := by omega
    subst e
    refine ⟨_, rfl, 1, _, c_X12_back E g (R00 N B gr) (by omega) rg 0 rfl (by decide) (a 1), by decide, ⟨_, rg.o⟩, fun X u h => h, fun v u h => ?_⟩
    rcases h with ⟨hx2, -⟩ | ⟨t, ht, hx2, rfl, -⟩
    · rw [hx] at hx2
      exact absurd hx2 (by decide)
    · have e : t = 0 := by omega
      subst e
      exact ⟨rfl, hI _⟩
set_option maxRecDepth 100000 in
set_option maxHeartbeats 400000 in
theorem p_format (E : gE) (f : Nat → va_E) (N B gr : Nat) (hb : 128 ≤ N ∧ N ≤ 1024 ∧ 4 ≤ B ∧ B ≤ 64 ∧ 1 ≤ gr ∧ gr ≤ 16) (hE : gN E = 350 + 2 * N + B + gr * 40) (hf : FrV E f N B gr) (Inv : (Nat → va_E) → Prop) (hI : ∀ u, Inv u) (a : Nat → Int32) : CsI E f yX11_format cX11_format 3 yX12_format cX12_format 2 [] [xI, xU] Inv := by
  obtain ⟨hN1, hN2, hB1, hB2, hg1, hg2⟩ := id hb
  have r := p_R E f N B gr hb hE hf
  have hm := p_M E f N B gr hb hE hf
  have hdv := p_D E f N B gr hb hE hf
  have hdo := d00_ok (N := N) (by omega)
  obtain ⟨hv, h31, h93⟩ := p_V E f N B gr hb hE hf
  have hs : DBV E f N B 1 (d00 N, b00 N, -1, 0, 0) := ⟨hdv, p_B E f N B gr hb hE hf⟩
  have ho : dbOk N B 21 (d00 N, b00 N, -1, 0, 0) := ⟨hdo, b00_ok (by omega) hB1 hB2, (show (0 : Nat) + 21 < 2 ^ 31 by decide)⟩
  refine ⟨10, _, c_X11_format E f _ 0 0 N B 1 (d00 N, b00 N, -1, 0, 0) (l00 N) 0 0 (fun _ => 0) (by omega) hN2 hN1 hm (by decide) hs ho (p_L E f N B gr hb hE hf) l00_ok h31 byt0 hv, by decide, ⟨_, hm.1⟩, fun v g h => ?_, fun X g h => ?_⟩
  · obtain ⟨rfl, -, sc, l, -, -, -, -, -, -, -, hfr⟩ := h
    have e93 : g 93 = oJ (gDA E) 1 (fun _ => 0) := (hfr 93 (fun q => by unfold FmK LDB DBK DkK BfK LgK at q; omega)).trans h93
    refine ⟨_, _, rfl, e93, ?_⟩
    have rg : RfV E (va_up g 93 (oJ (gDA E) 1 (vp_updL (fun _ => 0) 0 (nI (N - 61)).toInt64))) (R00 N B gr) := r.of (fun k hk => (up_n (by have := hk.2; omega) rfl).trans (hfr k (fun q => by have h1 := hk.1; have h2 := hk.2; unfold FmK LDB DBK DkK BfK LgK at q; omega)))
    have std : rStd (R00 N B gr) := ⟨(show ¬ (1 : Int32) = 0 by decide), rfl⟩
    have zz := (fmZ_std (N := N) std).1
    refine ⟨7, _, c_X12_format E _ (R00 N B gr) B (R00_ok hB1 hB2) (by omega) rg N rfl hN2, by decide, ⟨_, rg.o⟩, fun X u h2 => h2, fun v u h2 => ?_⟩
    obtain ⟨h3, hfr2⟩ := h2
    rcases h3 with ⟨h4, -⟩ | ⟨-, rfl, ru⟩
    · exact absurd h4 (by rintro (h | h); exact h rfl; exact absurd h (show ¬ (1 : Int32) = 0 by decide))
    · refine ⟨_, _, rfl, ru, ?_, fun _ => ⟨_, (hfr2 93 (fun q => by have := q.2; omega)).trans up_e, ?_⟩, hI _⟩
      · exact rFmt_0.trans (if_neg zz)
      · rw [if_neg zz]
        show (nI (N - 61)).toInt64 = (nI N - 61).toInt64
        rw [show (61 : Int32) = nI 61 from rfl, pk_sub (by omega)]
  · rcases h with ⟨-, -, h1⟩ | ⟨-, -, h1, -⟩
    · exact absurd ⟨rfl, by decide⟩ h1
    · rw [(cFmt_std (d00 N, b00 N, -1, 0, 0) rfl).1] at h1
      exact absurd h1 (by decide)
set_option maxRecDepth 100000 in
set_option maxHeartbeats 400000 in
theorem p_mount (E : gE) (f : Nat → va_E) (N B gr : Nat) (hb : 128 ≤ N ∧ N ≤ 1024 ∧ 4 ≤ B ∧ B ≤ 64 ∧ 1 ≤ gr ∧ gr ≤ 16) (hE : gN E = 350 + 2 * N + B + gr * 40) (hf : FrV E f N B gr) (Inv : (Nat → va_E) → Prop) (hI : ∀ u, Inv u) (a : Nat → Int32) : CsI E f yX11_mount cX11_mount 2 yX12_mount cX12_mount 6 [] [xI, xU, xA] Inv := by
  obtain ⟨hN1, hN2, hB1, hB2, hg1, hg2⟩ := id hb
  have r := p_R E f N B gr hb hE hf
  have hm := p_M E f N B gr hb hE hf
  have hdv := p_D E f N B gr hb hE hf
  have hdo := d00_ok (N := N) (by omega)
  obtain ⟨hv, h31, h93⟩ := p_V E f N B gr hb hE hf
  have hs : DBV E f N B 1 (d00 N, b00 N, -1, 0, 0) := ⟨hdv, p_B E f N B gr hb hE hf⟩
  have ho : dbOk N B 21 (d00 N, b00 N, -1, 0, 0) := ⟨hdo, b00_ok (by omega) hB1 hB2, (show (0 : Nat) + 21 < 2 ^ 31 by decide)⟩
  have b1 : smV (hRow N (fun _ => 0)) (dRead (d00 N) 0) 0 0 128 = 0 := smV_at (i := 0) (by
      have e1 : hRow N (fun _ => 0) 0 = 76 := rfl
      have e2 : dRead (d00 N) 0 0 = 0 := by
        have e3 : (d00 N).2.1 0 = -1 := flt_in (by omega)
        unfold dRead
        rw [if_pos e3]
        rfl
      show ¬ hRow N (fun _ => 0) 0 = dRead (d00 N) 0 0
      rw [e1, e2]
      decide) 128 (by decide)
  have b2 : smV (rRd (rHd (setS (R00 N B gr) 0 0)) 0) (rHdO (setS (R00 N B gr) 0 0)) 0 0 128 = 0 := smV_at (i := 0) (by
      have e1 : rHdO (setS (R00 N B gr) 0 0) 0 = 76 := rfl
      have e2 : rRd (rHd (setS (R00 N B gr) 0 0)) 0 0 = 0 := rfl
      show ¬ rRd (rHd (setS (R00 N B gr) 0 0)) 0 0 = rHdO (setS (R00 N B gr) 0 0) 0
      rw [e1, e2]
      decide) 128 (by decide)
  refine ⟨7, _, c_X11_mountBad E f _ 0 0 N B 1 (d00 N, b00 N, -1, 0, 0) 21 0 0 (fun _ => 0) (by omega) hN2 hN1 hm (by decide) hs ho h31 byt0 hv (fun _ _ => b1), by decide, ⟨_, hm.1⟩, fun v g h => h.elim, fun X g h => ?_⟩
  rcases h with ⟨-, -, h1⟩ | ⟨rfl, -, -, hfr⟩
  · exact absurd ⟨rfl, by decide⟩ h1
  · refine ⟨2, rfl, ?_⟩
    have rg : RfV E g (R00 N B gr) := r.of (fun k hk => hfr k (fun q => by have := hk.1; unfold ScK at q; omega))
    refine ⟨3, _, c_X12_mountBad E g (R00 N B gr) B (R00_ok hB1 hB2) (by omega) rg (fun _ _ => b2), by decide, ⟨_, rg.o⟩, fun X u h2 => h2, fun v u h2 => ?_⟩
    obtain ⟨h3, -⟩ := h2
    rcases h3 with ⟨h4, -⟩ | ⟨-, rfl, ru⟩
    · exact absurd h4 (by rintro (h | h); exact h rfl; exact absurd h (show ¬ (1 : Int32) = 0 by decide))
    · exact ⟨0, _, rfl, ru, rfl, fun e => absurd e (by decide), hI _⟩
set_option maxRecDepth 100000 in
set_option maxHeartbeats 400000 in
theorem p_power (E : gE) (f : Nat → va_E) (N B gr : Nat) (hb : 128 ≤ N ∧ N ≤ 1024 ∧ 4 ≤ B ∧ B ≤ 64 ∧ 1 ≤ gr ∧ gr ≤ 16) (hE : gN E = 350 + 2 * N + B + gr * 40) (hf : FrV E f N B gr) (Inv : (Nat → va_E) → Prop) (hI : ∀ u, Inv u) (a : Nat → Int32) : CsV E f yX11_power cX11_power 2 yX12_power cX12_power 2 [.int (a 1)] [xI, xA] Inv := by
  obtain ⟨hN1, hN2, hB1, hB2, hg1, hg2⟩ := id hb
  have r := p_R E f N B gr hb hE hf
  have hm := p_M E f N B gr hb hE hf
  have hdv := p_D E f N B gr hb hE hf
  have hdo := d00_ok (N := N) (by omega)
  refine ⟨7, _, c_X11_power E f _ 0 0 (by omega) hm (by decide) N (d00 N) 1 (-1) 0 0 (by omega) (by omega) hdv hdo (a 1), by decide, ⟨_, hm.1⟩, fun v g h => ?_, fun X g h => ?_⟩
  · obtain ⟨rfl, -, hx, -, hfr⟩ := h
    have rg : RfV E g (R00 N B gr) := r.of (fun k hk => hfr k (fun q => by have h1 := hk.1; have h2 := hk.2; unfold DkK at q; omega))
    refine ⟨rfl, 2, _, c_X12_power E g (R00 N B gr) (by omega) rg (a 1), by decide, ⟨_, rg.o⟩, fun X u h2 => h2, fun v u h2 => ?_⟩
    rcases h2 with ⟨-, h3, -⟩ | ⟨-, -, h3, -⟩ | ⟨rfl, -, -, ru, -⟩
    · exact absurd h3 (show ¬ (1 : Int32) = 0 by decide)
    · exact absurd h3 hx
    · exact ⟨_, rfl, ru, rfl, hI _⟩
  · rcases h with ⟨-, -, h1⟩ | ⟨rfl, rfl, -, hx⟩
    · exact absurd h1 (by decide)
    · refine ⟨1, rfl, 2, _, c_X12_power E f (R00 N B gr) (by omega) r (a 1), by decide, ⟨_, r.o⟩, fun X u h2 => h2, fun v u h2 => ?_⟩
      rcases h2 with ⟨-, h3, -⟩ | ⟨rfl, -, h3, ru, -⟩ | ⟨rfl, -, h3, -, -⟩
      · exact absurd h3 (show ¬ (1 : Int32) = 0 by decide)
      · exact ⟨_, rfl, ru, rfl, hI _⟩
      · exact absurd hx h3
set_option maxRecDepth 100000 in
set_option maxHeartbeats 400000 in
theorem p_crash (E : gE) (f : Nat → va_E) (N B gr : Nat) (hb : 128 ≤ N ∧ N ≤ 1024 ∧ 4 ≤ B ∧ B ≤ 64 ∧ 1 ≤ gr ∧ gr ≤ 16) (hE : gN E = 350 + 2 * N + B + gr * 40) (hf : FrV E f N B gr) (Inv : (Nat → va_E) → Prop) (hI : ∀ u, Inv u) (a : Nat → Int32) : CsV E f yX11_crash cX11_crash 1 yX12_crash cX12_crash 1 [] [xI] Inv := by
  obtain ⟨hN1, hN2, hB1, hB2, hg1, hg2⟩ := id hb
  have r := p_R E f N B gr hb hE hf
  have hm := p_M E f N B gr hb hE hf
  have hdv := p_D E f N B gr hb hE hf
  have hdo := d00_ok (N := N) (by omega)
  refine ⟨7, _, c_X11_crash E f _ 0 0 (by omega) hm (by decide) N (d00 N) 1 (-1) 0 0 (by omega) (by omega) hdv hdo, by decide, ⟨_, hm.1⟩, fun v g h => ?_, fun X g h => absurd h.2.2 (by decide)⟩
  obtain ⟨rfl, -, -, hfr⟩ := h
  have rg : RfV E g (R00 N B gr) := r.of (fun k hk => hfr k (fun q => by have h1 := hk.1; have h2 := hk.2; unfold DkK at q; omega))
  refine ⟨rfl, 3, _, c_X12_crash E g (R00 N B gr) 0 (by decide) rfl (fun k hk => absurd hk (by omega)) (by omega) rg, by decide, ⟨_, rg.o⟩, fun X u h2 => h2, fun v u h2 => ?_⟩
  rcases h2 with ⟨-, h3, -⟩ | ⟨rfl, -, ru, -⟩
  · exact absurd h3 (show ¬ (1 : Int32) = 0 by decide)
  · exact ⟨_, rfl, ru, rfl, hI _⟩
set_option maxRecDepth 100000 in
set_option maxHeartbeats 400000 in
theorem p_restart (E : gE) (f : Nat → va_E) (N B gr : Nat) (hb : 128 ≤ N ∧ N ≤ 1024 ∧ 4 ≤ B ∧ B ≤ 64 ∧ 1 ≤ gr ∧ gr ≤ 16) (hE : gN E = 350 + 2 * N + B + gr * 40) (hf : FrV E f N B gr) (Inv : (Nat → va_E) → Prop) (hI : ∀ u, Inv u) (a : Nat → Int32) : CsI E f yX11_restart cX11_restart 3 yX12_restart cX12_restart 12 [.long ((((a 1 : Int32).toInt64) <<< (((32 : Int32) : Int32).toInt64 &&& 63)) ||| (((a 2 : Int32).toInt64) &&& ((4294967295 : Int64))))] [xI] Inv := by
  obtain ⟨hN1, hN2, hB1, hB2, hg1, hg2⟩ := id hb
  have r := p_R E f N B gr hb hE hf
  have hm := p_M E f N B gr hb hE hf
  have hdv := p_D E f N B gr hb hE hf
  have hdo := d00_ok (N := N) (by omega)
  refine ⟨7, _, u_X11_restart E f _ 0 0 (by omega) hm (by decide) N (d00 N) 1 (-1) 0 0 (by omega) (by omega) hdv hdo (by decide) _, by decide, ⟨_, hm.1⟩, fun v g h => h.elim, fun X g h => ⟨0, by rw [h.1]; rfl, ?_⟩⟩
  obtain ⟨-, rfl⟩ := h
  exact ⟨2, _, u_X12_restart E f (R00 N B gr) (by omega) r rfl _, by decide, ⟨_, r.o⟩, fun X u h2 => h2, fun v u h2 => ⟨0, _, h2.1, h2.2.1, rfl, fun e => absurd e (by decide), hI _⟩⟩
set_option maxRecDepth 100000 in
set_option maxHeartbeats 400000 in
theorem p_byteAt (E : gE) (f : Nat → va_E) (N B gr : Nat) (hb : 128 ≤ N ∧ N ≤ 1024 ∧ 4 ≤ B ∧ B ≤ 64 ∧ 1 ≤ gr ∧ gr ≤ 16) (hE : gN E = 350 + 2 * N + B + gr * 40) (hf : FrV E f N B gr) (Inv : (Nat → va_E) → Prop) (hI : ∀ u, Inv u) (a : Nat → Int32) : CsI E f yX11_byteAt cX11_byteAt 3 yX12_byteAt cX12_byteAt 3 [.int (a 1), .int (a 2)] [xN] Inv := by
  obtain ⟨hN1, hN2, hB1, hB2, hg1, hg2⟩ := id hb
  have r := p_R E f N B gr hb hE hf
  have hm := p_M E f N B gr hb hE hf
  have hdv := p_D E f N B gr hb hE hf
  have hdo := d00_ok (N := N) (by omega)
  obtain ⟨-, -, h93⟩ := p_V E f N B gr hb hE hf
  have hwa : ∀ t, t < N → rA (R00 N B gr) 40 t = -1 ∨ ∃ u, u < 256 ∧ rA (R00 N B gr) 40 t = nI u := fun t ht => Or.inl (flt_in (by omega))
  have e1 : ∀ t u, t < N → dRead (d00 N) t u = 0 := by
    intro t u ht
    have e3 : (d00 N).2.1 t = -1 := flt_in ht
    unfold dRead
    rw [if_pos e3]
    rfl
  have e2 : ∀ t u, t < N → u < 128 → rRd (setS (R00 N B gr) 0 0) t u = 0 := by
    intro t u ht hu
    have e3 : rA (setS (R00 N B gr) 0 0) 40 t = -1 := flt_in (by omega)
    unfold rRd
    rw [if_pos e3, pk_cpy_in (Nat.zero_le _) (by omega)]
    rfl
  have ok : ∀ t u, t < N → u < 128 → (¬ nI t < 0 ∧ nI t < nI N ∧ ¬ nI u < 0 ∧ nI u < 128) := fun t u ht hu => ⟨fun q => Int32.lt_irrefl (Int32.lt_of_lt_of_le q (nI_le (Nat.zero_le t) (by omega))), nI_lt ht (by omega), fun q => Int32.lt_irrefl (Int32.lt_of_lt_of_le q (nI_le (Nat.zero_le u) (by omega))), nI_lt hu (by decide)⟩
  refine ⟨7, _, c_X11_byteAt E f _ 0 0 (by omega) hm (by decide) N (d00 N) 1 (-1) 0 0 (by omega) (by omega) hdv hdo (a 1) (a 2), by decide, ⟨_, hm.1⟩, fun v g h => ?_, fun X g h => ?_⟩
  · obtain ⟨t, u, ht, hu, hx, hi, rfl, rfl⟩ := h
    refine ⟨_, _, rfl, h93, ?_⟩
    have rg : RfV E (va_up f 93 (oJ (gDA E) 1 (vp_updL (fun _ => 0) 0 (dRead (d00 N) t u &&& 255).toInt64))) (R00 N B gr) := r.of (fun k hk => up_n (by have := hk.2; omega) rfl)
    refine ⟨3, _, c_X12_byteAt E _ (R00 N B gr) N rfl hN2 hwa byt0 byt0 (by omega) rg (a 1) (a 2), by decide, ⟨_, rg.o⟩, fun X u h2 => h2, fun v w h2 => ?_⟩
    rcases h2 with ⟨h3, -⟩ | ⟨t2, u2, ht2, hu2, -, -, rfl, ru, hfr2⟩
    · rw [hx, hi] at h3
      exact absurd (ok t u ht hu) h3
    · refine ⟨_, _, rfl, ru, rfl, fun _ => ⟨_, (hfr2 93 (fun q => by have := q.2; omega)).trans up_e, ?_⟩, hI _⟩
      rw [e1 t u ht, e2 t2 u2 ht2 hu2]
      rfl
  · obtain ⟨rfl, rfl, h1⟩ := h
    refine ⟨0, rfl, 3, _, c_X12_byteAt E f (R00 N B gr) N rfl hN2 hwa byt0 byt0 (by omega) r (a 1) (a 2), by decide, ⟨_, r.o⟩, fun X u h2 => h2, fun v w h2 => ?_⟩
    rcases h2 with ⟨-, rfl, ru, -⟩ | ⟨t2, u2, ht2, hu2, hx, hi, -⟩
    · exact ⟨0, _, rfl, ru, rfl, fun e => absurd e (by decide), hI _⟩
    · rw [hx, hi] at h1
      exact absurd (ok t2 u2 ht2 hu2) h1
set_option maxRecDepth 100000 in
set_option maxHeartbeats 400000 in
theorem p_waiting (E : gE) (f : Nat → va_E) (N B gr : Nat) (hb : 128 ≤ N ∧ N ≤ 1024 ∧ 4 ≤ B ∧ B ≤ 64 ∧ 1 ≤ gr ∧ gr ≤ 16) (hE : gN E = 350 + 2 * N + B + gr * 40) (hf : FrV E f N B gr) (Inv : (Nat → va_E) → Prop) (hI : ∀ u, Inv u) (a : Nat → Int32) : CsI E f yX11_waiting cX11_waiting 2 yX12_waiting cX12_waiting 2 [.int (a 1)] [xN] Inv := by
  obtain ⟨hN1, hN2, hB1, hB2, hg1, hg2⟩ := id hb
  have r := p_R E f N B gr hb hE hf
  have hm := p_M E f N B gr hb hE hf
  have hdv := p_D E f N B gr hb hE hf
  have hdo := d00_ok (N := N) (by omega)
  obtain ⟨-, -, h93⟩ := p_V E f N B gr hb hE hf
  have ok : ∀ t, t < N → (¬ nI t < 0 ∧ nI t < nI N ∧ ¬ (0 : Int32) < 0 ∧ (0 : Int32) < 128) := fun t ht => ⟨fun q => Int32.lt_irrefl (Int32.lt_of_lt_of_le q (nI_le (Nat.zero_le t) (by omega))), nI_lt ht (by omega), by decide, by decide⟩
  refine ⟨7, _, c_X11_waiting E f _ 0 0 (by omega) hm (by decide) N (d00 N) 1 (-1) 0 0 (by omega) (by omega) hdv hdo (a 1), by decide, ⟨_, hm.1⟩, fun v g h => ?_, fun X g h => ?_⟩
  · obtain ⟨t, ht, hx, rfl, rfl⟩ := h
    refine ⟨_, _, rfl, h93, ?_⟩
    have rg : RfV E (va_up f 93 (oJ (gDA E) 1 (vp_updL (fun _ => 0) 0 ((d00 N).1 t).toInt64))) (R00 N B gr) := r.of (fun k hk => up_n (by have := hk.2; omega) rfl)
    refine ⟨3, _, c_X12_waiting E _ (R00 N B gr) 0 0 rfl (by decide) rfl (by decide) N rfl hN2 (by omega) rg (a 1), by decide, ⟨_, rg.o⟩, fun X u h2 => h2, fun v w h2 => ?_⟩
    rcases h2 with ⟨h3, -⟩ | ⟨t2, ht2, -, rfl, ru, hfr2⟩
    · rw [hx] at h3
      exact absurd (ok t ht) h3
    · exact ⟨_, _, rfl, ru, rfl, fun _ => ⟨_, (hfr2 93 (fun q => by have := q.2; omega)).trans up_e, rfl⟩, hI _⟩
  · obtain ⟨rfl, rfl, h1⟩ := h
    refine ⟨0, rfl, 3, _, c_X12_waiting E f (R00 N B gr) 0 0 rfl (by decide) rfl (by decide) N rfl hN2 (by omega) r (a 1), by decide, ⟨_, r.o⟩, fun X u h2 => h2, fun v w h2 => ?_⟩
    rcases h2 with ⟨-, rfl, ru, -⟩ | ⟨t2, ht2, hx, -⟩
    · exact ⟨0, _, rfl, ru, rfl, fun e => absurd e (by decide), hI _⟩
    · rw [hx] at h1
      exact absurd (ok t2 ht2) h1
set_option maxRecDepth 100000 in
set_option maxHeartbeats 400000 in
theorem p_count (E : gE) (f : Nat → va_E) (N B gr : Nat) (hb : 128 ≤ N ∧ N ≤ 1024 ∧ 4 ≤ B ∧ B ≤ 64 ∧ 1 ≤ gr ∧ gr ≤ 16) (hE : gN E = 350 + 2 * N + B + gr * 40) (hf : FrV E f N B gr) (Inv : (Nat → va_E) → Prop) (hI : ∀ u, Inv u) (a : Nat → Int32) : CsI E f yX11_count cX11_count 2 yX12_count cX12_count 2 [.int (a 1)] [xA] Inv := by
  obtain ⟨hN1, hN2, hB1, hB2, hg1, hg2⟩ := id hb
  have r := p_R E f N B gr hb hE hf
  have hm := p_M E f N B gr hb hE hf
  have hdv := p_D E f N B gr hb hE hf
  have hdo := d00_ok (N := N) (by omega)
  obtain ⟨-, -, h93⟩ := p_V E f N B gr hb hE hf
  have ec : ∀ x : Int32, cntU 1 (nI (d00 N).2.2.2.2.2.2) 0 0 (-1) (b00 N).2.2.2.2.2.2 (b00 N).2.2.2.2.2.1 0 x = rCnt (R00 N B gr) x := fun x => rfl
  by_cases hx : a 1 < 0 ∨ 17 < a 1
  · refine ⟨7, _, v_X11_count E f _ 0 0 (by omega) hm (by decide) N (d00 N) 1 (-1) 0 0 (by omega) (by omega) hdv hdo (a 1) hx, by decide, ⟨_, hm.1⟩, fun v g h => h.elim, fun X g h => ?_⟩
    obtain ⟨rfl, rfl⟩ := h
    refine ⟨0, rfl, 2, _, u_X12_count E f (R00 N B gr) (by omega) r rfl (a 1), by decide, ⟨_, r.o⟩, fun X u h2 => h2, fun v w h2 => ?_⟩
    rcases h2 with ⟨-, rfl, ru, -⟩ | ⟨h3, h4, -⟩
    · exact ⟨0, _, rfl, ru, rfl, fun e => absurd e (by decide), hI _⟩
    · exact absurd hx (by rintro (h | h); exact h3 h; exact Int32.lt_irrefl (Int32.lt_of_lt_of_le h h4))
  · refine ⟨7, _, u_X11_count E f _ 0 0 (by omega) hm (by decide) N (d00 N) 1 (-1) 0 0 (by omega) (by omega) hdv hdo B (b00 N) (p_B E f N B gr hb hE hf) (fun q => q.1 rfl) (a 1), by decide, ⟨_, hm.1⟩, fun v g h => ?_, fun X g h => absurd h.2.2 hx⟩
    obtain ⟨rfl, rfl⟩ := h
    refine ⟨_, _, rfl, h93, ?_⟩
    have rg : RfV E (va_up f 93 (oJ (gDA E) 1 (vp_updL (fun _ => 0) 0 (cntU 1 (nI (d00 N).2.2.2.2.2.2) 0 0 (-1) (b00 N).2.2.2.2.2.2 (b00 N).2.2.2.2.2.1 0 (a 1)).toInt64))) (R00 N B gr) := r.of (fun k hk => up_n (by have := hk.2; omega) rfl)
    refine ⟨2, _, u_X12_count E _ (R00 N B gr) (by omega) rg rfl (a 1), by decide, ⟨_, rg.o⟩, fun X u h2 => h2, fun v w h2 => ?_⟩
    rcases h2 with ⟨h3, -⟩ | ⟨-, -, rfl, ru, hfr2⟩
    · exact absurd h3 hx
    · exact ⟨_, _, rfl, ru, rfl, fun _ => ⟨_, (hfr2 93 (fun q => by have := q.2; omega)).trans up_e, by rw [← ec]; rfl⟩, hI _⟩
set_option maxRecDepth 100000 in
set_option maxHeartbeats 400000 in
theorem p_all (E : gE) (f : Nat → va_E) (N B gr : Nat) (hb : 128 ≤ N ∧ N ≤ 1024 ∧ 4 ≤ B ∧ B ≤ 64 ∧ 1 ≤ gr ∧ gr ≤ 16) (hE : gN E = 350 + 2 * N + B + gr * 40) (hf : FrV E f N B gr) (Inv : (Nat → va_E) → Prop) (hI : ∀ u, Inv u) (a : Nat → Int32) : ∀ n, n < 45 → Case E f a Inv n := by
  intro n hn
  match n, hn with
  | 0, _ => exact p_feed E f N B gr hb hE hf Inv hI a
  | 1, _ => exact p_back E f N B gr hb hE hf Inv hI a
  | 2, _ => exact p_format E f N B gr hb hE hf Inv hI a
  | 3, _ => exact p_mount E f N B gr hb hE hf Inv hI a
  | 4, _ => exact p_unmount E f N B gr hb hE hf Inv hI a
  | 5, _ => exact p_make E f N B gr hb hE hf Inv hI a
  | 6, _ => exact p_remove E f N B gr hb hE hf Inv hI a
  | 7, _ => exact p_rename E f N B gr hb hE hf Inv hI a
  | 8, _ => exact p_link E f N B gr hb hE hf Inv hI a
  | 9, _ => exact p_clear E f N B gr hb hE hf Inv hI a
  | 10, _ => exact p_copy E f N B gr hb hE hf Inv hI a
  | 11, _ => exact p_find E f N B gr hb hE hf Inv hI a
  | 12, _ => exact p_write E f N B gr hb hE hf Inv hI a
  | 13, _ => exact p_fill E f N B gr hb hE hf Inv hI a
  | 14, _ => exact p_truncate E f N B gr hb hE hf Inv hI a
  | 15, _ => exact p_mark E f N B gr hb hE hf Inv hI a
  | 16, _ => exact p_punch E f N B gr hb hE hf Inv hI a
  | 17, _ => exact p_hold E f N B gr hb hE hf Inv hI a
  | 18, _ => exact p_release E f N B gr hb hE hf Inv hI a
  | 19, _ => exact p_read E f N B gr hb hE hf Inv hI a
  | 20, _ => exact p_about E f N B gr hb hE hf Inv hI a
  | 21, _ => exact p_where E f N B gr hb hE hf Inv hI a
  | 22, _ => exact p_entry E f N B gr hb hE hf Inv hI a
  | 23, _ => exact p_letter E f N B gr hb hE hf Inv hI a
  | 24, _ => exact p_open E f N B gr hb hE hf Inv hI a
  | 25, _ => exact p_close E f N B gr hb hE hf Inv hI a
  | 26, _ => exact p_put E f N B gr hb hE hf Inv hI a
  | 27, _ => exact p_get E f N B gr hb hE hf Inv hI a
  | 28, _ => exact p_seek E f N B gr hb hE hf Inv hI a
  | 29, _ => exact p_look E f N B gr hb hE hf Inv hI a
  | 30, _ => exact p_begin E f N B gr hb hE hf Inv hI a
  | 31, _ => exact p_end E f N B gr hb hE hf Inv hI a
  | 32, _ => exact p_undo E f N B gr hb hE hf Inv hI a
  | 33, _ => exact p_flush E f N B gr hb hE hf Inv hI a
  | 34, _ => exact p_sync E f N B gr hb hE hf Inv hI a
  | 35, _ => exact p_apply E f N B gr hb hE hf Inv hI a
  | 36, _ => exact p_power E f N B gr hb hE hf Inv hI a
  | 37, _ => exact p_crash E f N B gr hb hE hf Inv hI a
  | 38, _ => exact p_restart E f N B gr hb hE hf Inv hI a
  | 39, _ => exact p_byteAt E f N B gr hb hE hf Inv hI a
  | 40, _ => exact p_waiting E f N B gr hb hE hf Inv hI a
  | 41, _ => exact p_seen E f N B gr hb hE hf Inv hI a
  | 42, _ => exact p_tree E f N B gr hb hE hf Inv hI a
  | 43, _ => exact p_check E f N B gr hb hE hf Inv hI a
  | 44, _ => exact p_count E f N B gr hb hE hf Inv hI a
  | n + 45, h => exact absurd h (by omega)
end GLQ
