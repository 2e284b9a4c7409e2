/-! ===== mounted: the cases ===== -/
section PXS
variable {E : gE} {f : Nat → va_E} {N B gr u : Nat} {Inv : (Nat → va_E) → Prop}
theorem m_mark {a0 : Int32} {a1 : Int32} (hz : CfZ E N B gr) (hE : 94 ≤ gN E) (hu : u + 400000 < 2 ^ 31) (hw : Wm E N B gr u f) (iM : ∀ g, Wm E N B gr (u + 200000) g → Inv g) (iO : ∀ g, Wo E N B gr (u + 200000) g → Inv g) : CsI E f yX11_mark cX11_mark 3 yX12_mark cX12_mark 3 [.int a0, .int a1] [xI, xU] Inv := by
  obtain ⟨C, A, D, R, o, w1, w2, w3, w4, w5, ⟨g, m, V, tk, hd, hi, tp, tl, im, hL⟩⟩ := hw
  obtain ⟨z1, z2, z3, z4, z5, z6, z7⟩ := id hz
  exact cs_I (u := u + 200000) (c0 := 1) (k0 := 0) w1 w4 w5 (fun r e => k_X11_mark E f N B gr C D A hz w1 w2 w3 a0 a1 r e) (fun g w r R9 e => k_X12_mark E g hE R w a0 a1 r R9 e) (by decide) (by decide) (fun ex hx => (r_mark (by omega) z2 z5 z6 (by omega) im).upR (by omega)) (by decide) rfl (by decide) (Or.inl rfl) iM iO
theorem m_hold {a0 : Int32} (hz : CfZ E N B gr) (hE : 94 ≤ gN E) (hu : u + 400000 < 2 ^ 31) (hw : Wm E N B gr u f) (iM : ∀ g, Wm E N B gr (u + 200000) g → Inv g) (iO : ∀ g, Wo E N B gr (u + 200000) g → Inv g) : CsI E f yX11_hold cX11_hold 2 yX12_hold cX12_hold 2 [.int a0] [xI] Inv := by
  obtain ⟨C, A, D, R, o, w1, w2, w3, w4, w5, ⟨g, m, V, tk, hd, hi, tp, tl, im, hL⟩⟩ := hw
  obtain ⟨z1, z2, z3, z4, z5, z6, z7⟩ := id hz
  exact cs_I (u := u + 200000) (c0 := 1) (k0 := 0) w1 w4 w5 (fun r e => k_X11_hold E f N B gr C D A hz w1 w2 w3 a0 r e) (fun g w r R9 e => k_X12_hold E g hE R w a0 r R9 e) (by decide) (by decide) (fun ex hx => (r_hold (by omega) z2 im).ret.upR (by omega)) (by decide) rfl (by decide) (Or.inr (RetR.no0 (r_hold (ex := fun _ => nI (0 + 1)) (by omega) z2 im))) iM iO
theorem m_seek {a0 : Int32} {a1 : Int32} (hz : CfZ E N B gr) (hE : 94 ≤ gN E) (hu : u + 400000 < 2 ^ 31) (hw : Wm E N B gr u f) (iM : ∀ g, Wm E N B gr (u + 200000) g → Inv g) (iO : ∀ g, Wo E N B gr (u + 200000) g → Inv g) : CsI E f yX11_seek cX11_seek 4 yX12_seek cX12_seek 4 [.int a0, .int a1] [xI] Inv := by
  obtain ⟨C, A, D, R, o, w1, w2, w3, w4, w5, ⟨g, m, V, tk, hd, hi, tp, tl, im, hL⟩⟩ := hw
  obtain ⟨z1, z2, z3, z4, z5, z6, z7⟩ := id hz
  exact cs_I (u := u + 200000) (c0 := 1) (k0 := 0) w1 w4 w5 (fun r e => k_X11_seek E f N B gr C D A hz w1 w2 w3 a0 a1 r e) (fun g w r R9 e => k_X12_seek E g hE R w a0 a1 r R9 e) (by decide) (by decide) (fun ex hx => (r_seek (by omega) z2 im).ret.upR (by omega)) (by decide) rfl (by decide) (Or.inr (RetR.no0 (r_seek (ex := fun _ => nI (0 + 1)) (by omega) z2 im))) iM iO
theorem m_look {a0 : Int32} {a1 : Int32} (hz : CfZ E N B gr) (hE : 94 ≤ gN E) (hu : u + 400000 < 2 ^ 31) (hw : Wm E N B gr u f) (iM : ∀ g, Wm E N B gr (u + 200000) g → Inv g) (iO : ∀ g, Wo E N B gr (u + 200000) g → Inv g) : CsI E f yX11_look cX11_look 3 yX12_look cX12_look 3 [.int a0, .int a1] [xI, xA] Inv := by
  obtain ⟨C, A, D, R, o, w1, w2, w3, w4, w5, ⟨g, m, V, tk, hd, hi, tp, tl, im, hL⟩⟩ := hw
  obtain ⟨z1, z2, z3, z4, z5, z6, z7⟩ := id hz
  exact cs_I (u := u + 200000) (c0 := 2) (k0 := 1) w1 w4 w5 (fun r e => k_X11_look E f N B gr C D A hz w1 w2 w3 a0 a1 r e) (fun g w r R9 e => k_X12_look E g hE R w a0 a1 r R9 e) (by decide) (by decide) (fun ex hx => (r_look z2 hx im).ret.upR (by omega)) (by decide) rfl (by decide) (Or.inr (RetR.no0 (r_look (ex := fun _ => nI (1 + 1)) z2 rfl im))) iM iO
theorem m_read {a0 : Int32} {a1 : Int32} (hz : CfZ E N B gr) (hE : 94 ≤ gN E) (hu : u + 400000 < 2 ^ 31) (hw : Wm E N B gr u f) (iM : ∀ g, Wm E N B gr (u + 200000) g → Inv g) (iO : ∀ g, Wo E N B gr (u + 200000) g → Inv g) : CsI E f yX11_read cX11_read 3 yX12_read cX12_read 4 [.int a0, .int a1] [xI] Inv := by
  obtain ⟨C, A, D, R, o, w1, w2, w3, w4, w5, ⟨g, m, V, tk, hd, hi, tp, tl, im, hL⟩⟩ := hw
  obtain ⟨z1, z2, z3, z4, z5, z6, z7⟩ := id hz
  exact cs_I (u := u + 200000) (c0 := 1) (k0 := 0) w1 w4 w5 (fun r e => k_X11_read E f N B gr C D A hz w1 w2 w3 a0 a1 r e) (fun g w r R9 e => k_X12_read E g hE R w a0 a1 r R9 e) (by decide) (by decide) (fun ex hx => (r_read (by omega) z2 im).ret.upR (by omega)) (by decide) rfl (by decide) (Or.inr (RetR.no0 (r_read (ex := fun _ => nI (0 + 1)) (by omega) z2 im))) iM iO
theorem m_get {a0 : Int32} (hz : CfZ E N B gr) (hE : 94 ≤ gN E) (hu : u + 400000 < 2 ^ 31) (hw : Wm E N B gr u f) (iM : ∀ g, Wm E N B gr (u + 200000) g → Inv g) (iO : ∀ g, Wo E N B gr (u + 200000) g → Inv g) : CsI E f yX11_get cX11_get 3 yX12_get cX12_get 4 [.int a0] [xI] Inv := by
  obtain ⟨C, A, D, R, o, w1, w2, w3, w4, w5, ⟨g, m, V, tk, hd, hi, tp, tl, im, hL⟩⟩ := hw
  obtain ⟨z1, z2, z3, z4, z5, z6, z7⟩ := id hz
  exact cs_I (u := u + 200000) (c0 := 1) (k0 := 0) w1 w4 w5 (fun r e => k_X11_get E f N B gr C D A hz w1 w2 w3 a0 r e) (fun g w r R9 e => k_X12_get E g hE R w a0 r R9 e) (by decide) (by decide) (fun ex hx => (r_get (by omega) z2 im).ret.upR (by omega)) (by decide) rfl (by decide) (Or.inr (RetR.no0 (r_get (ex := fun _ => nI (0 + 1)) (by omega) z2 im))) iM iO
theorem m_where {a0 : Int32} {a1 : Int32} (hz : CfZ E N B gr) (hE : 94 ≤ gN E) (hu : u + 400000 < 2 ^ 31) (hw : Wm E N B gr u f) (iM : ∀ g, Wm E N B gr (u + 200000) g → Inv g) (iO : ∀ g, Wo E N B gr (u + 200000) g → Inv g) : CsI E f yX11_where cX11_where 3 yX12_where cX12_where 3 [.int a0, .int a1] [xI, xA] Inv := by
  obtain ⟨C, A, D, R, o, w1, w2, w3, w4, w5, ⟨g, m, V, tk, hd, hi, tp, tl, im, hL⟩⟩ := hw
  obtain ⟨z1, z2, z3, z4, z5, z6, z7⟩ := id hz
  exact cs_I (u := u + 200000) (c0 := 2) (k0 := 1) w1 w4 w5 (fun r e => k_X11_where E f N B gr C D A hz w1 w2 w3 a0 a1 r e) (fun g w r R9 e => k_X12_where E g hE R w a0 a1 r R9 e) (by decide) (by decide) (fun ex hx => (r_where (by omega) z2 hx im).ret.upR (by omega)) (by decide) rfl (by decide) (Or.inr (RetR.no0 (r_where (ex := fun _ => nI (1 + 1)) (by omega) z2 rfl im))) iM iO
theorem m_begin (hz : CfZ E N B gr) (hE : 94 ≤ gN E) (hu : u + 400000 < 2 ^ 31) (hw : Wm E N B gr u f) (iM : ∀ g, Wm E N B gr (u + 200000) g → Inv g) (iO : ∀ g, Wo E N B gr (u + 200000) g → Inv g) : CsB E f yX11_begin cX11_begin 1 yX12_begin cX12_begin 1 [] [xI] Inv := by
  obtain ⟨C, A, D, R, o, w1, w2, w3, w4, w5, ⟨g, m, V, tk, hd, hi, tp, tl, im, hL⟩⟩ := hw
  obtain ⟨z1, z2, z3, z4, z5, z6, z7⟩ := id hz
  exact cs_B (u := u + 200000) (c0 := 1) (k0 := 0) w1 w4 w5 (fun r e => k_X11_begin E f N B gr C D A hz w1 w2 w3 r e) (fun g w r R9 e => k_X12_begin E g hE R w r R9 e) (by decide) (by decide) (fun ex hx => (r_begin z2 im).ret.upR (by omega)) (by decide) rfl (by decide) (Or.inr (RetR.no0 (r_begin (ex := fun _ => nI (0 + 1)) z2 im))) iM iO
theorem m_entry {a0 : Int32} {a1 : Int32} (hz : CfZ E N B gr) (hE : 94 ≤ gN E) (hu : u + 400000 < 2 ^ 31) (hw : Wm E N B gr u f) (iM : ∀ g, Wm E N B gr (u + 200000) g → Inv g) (iO : ∀ g, Wo E N B gr (u + 200000) g → Inv g) : CsI E f yX11_entry cX11_entry 4 yX12_entry cX12_entry 4 [.int a0, .int a1] [xI, xN] Inv := by
  obtain ⟨C, A, D, R, o, w1, w2, w3, w4, w5, ⟨g, m, V, tk, hd, hi, tp, tl, im, hL⟩⟩ := hw
  obtain ⟨z1, z2, z3, z4, z5, z6, z7⟩ := id hz
  exact cs_I (u := u + 200000) (c0 := 3) (k0 := 1) w1 w4 w5 (fun r e => k_X11_entry E f N B gr C D A hz w1 w2 w3 a0 a1 r e) (fun g w r R9 e => k_X12_entry E g hE R w a0 a1 r R9 e) (by decide) (by decide) (fun ex hx => (r_entry (by omega) z2 hx im).ret.upR (by omega)) (by decide) rfl (by decide) (Or.inr (RetR.no0 (r_entry (ex := fun _ => nI (1 + 1)) (by omega) z2 rfl im))) iM iO
theorem m_letter {a0 : Int32} {a1 : Int32} {a2 : Int32} (hz : CfZ E N B gr) (hE : 94 ≤ gN E) (hu : u + 400000 < 2 ^ 31) (hw : Wm E N B gr u f) (iM : ∀ g, Wm E N B gr (u + 200000) g → Inv g) (iO : ∀ g, Wo E N B gr (u + 200000) g → Inv g) : CsI E f yX11_letter cX11_letter 5 yX12_letter cX12_letter 5 [.int a0, .int a1, .int a2] [xI, xN] Inv := by
  obtain ⟨C, A, D, R, o, w1, w2, w3, w4, w5, ⟨g, m, V, tk, hd, hi, tp, tl, im, hL⟩⟩ := hw
  obtain ⟨z1, z2, z3, z4, z5, z6, z7⟩ := id hz
  exact cs_I (u := u + 200000) (c0 := 3) (k0 := 1) w1 w4 w5 (fun r e => k_X11_letter E f N B gr C D A hz w1 w2 w3 a0 a1 a2 r e) (fun g w r R9 e => k_X12_letter E g hE R w a0 a1 a2 r R9 e) (by decide) (by decide) (fun ex hx => (r_letter (by omega) z2 hx im).ret.upR (by omega)) (by decide) rfl (by decide) (Or.inr (RetR.no0 (r_letter (ex := fun _ => nI (1 + 1)) (by omega) z2 rfl im))) iM iO
theorem m_find (hz : CfZ E N B gr) (hE : 94 ≤ gN E) (hu : u + 400000 < 2 ^ 31) (hw : Wm E N B gr u f) (iM : ∀ g, Wm E N B gr (u + 200000) g → Inv g) (iO : ∀ g, Wo E N B gr (u + 200000) g → Inv g) : CsI E f yX11_find cX11_find 2 yX12_find cX12_find 3 [] [xI] Inv := by
  obtain ⟨C, A, D, R, o, w1, w2, w3, w4, w5, ⟨g, m, V, tk, hd, hi, tp, tl, im, hL⟩⟩ := hw
  obtain ⟨z1, z2, z3, z4, z5, z6, z7⟩ := id hz
  exact cs_I (u := u + 200000) (c0 := 1) (k0 := 0) w1 w4 w5 (fun r e => k_X11_find E f N B gr C D A hz w1 w2 w3 r e) (fun g w r R9 e => k_X12_find E g hE R w r R9 e) (by decide) (by decide) (fun ex hx => (r_find (by omega) z2 im).ret.upR (by omega)) (by decide) rfl (by decide) (Or.inr (RetR.no0 (r_find (ex := fun _ => nI (0 + 1)) (by omega) z2 im))) iM iO
theorem m_make {a0 : Int32} (hz : CfZ E N B gr) (hE : 94 ≤ gN E) (hu : u + 400000 < 2 ^ 31) (hw : Wm E N B gr u f) (iM : ∀ g, Wm E N B gr (u + 200000) g → Inv g) (iO : ∀ g, Wo E N B gr (u + 200000) g → Inv g) : CsI E f yX11_make cX11_make 6 yX12_make cX12_make 8 [.int a0] [xI, xU] Inv := by
  obtain ⟨C, A, D, R, o, w1, w2, w3, w4, w5, ⟨g, m, V, tk, hd, hi, tp, tl, im, hL⟩⟩ := hw
  obtain ⟨z1, z2, z3, z4, z5, z6, z7⟩ := id hz
  exact cs_I (u := u + 200000) (c0 := 1) (k0 := 0) w1 w4 w5 (fun r e => k_X11_make E f N B gr C D A hz w1 w2 w3 a0 r e) (fun g w r R9 e => k_X12_make E g hE R w a0 r R9 e) (by decide) (by decide) (fun ex hx => (r_make (by omega) z2 z5 z6 (by omega) im).upR (by omega)) (by decide) rfl (by decide) (Or.inl rfl) iM iO
theorem m_remove (hz : CfZ E N B gr) (hE : 94 ≤ gN E) (hu : u + 400000 < 2 ^ 31) (hw : Wm E N B gr u f) (iM : ∀ g, Wm E N B gr (u + 200000) g → Inv g) (iO : ∀ g, Wo E N B gr (u + 200000) g → Inv g) : CsI E f yX11_remove cX11_remove 4 yX12_remove cX12_remove 6 [] [xI, xU] Inv := by
  obtain ⟨C, A, D, R, o, w1, w2, w3, w4, w5, ⟨g, m, V, tk, hd, hi, tp, tl, im, hL⟩⟩ := hw
  obtain ⟨z1, z2, z3, z4, z5, z6, z7⟩ := id hz
  exact cs_I (u := u + 200000) (c0 := 1) (k0 := 0) w1 w4 w5 (fun r e => k_X11_remove E f N B gr C D A hz w1 w2 w3 r e) (fun g w r R9 e => k_X12_remove E g hE R w r R9 e) (by decide) (by decide) (fun ex hx => (r_remove (by omega) z2 z5 z6 (by omega) im).upR (by omega)) (by decide) rfl (by decide) (Or.inl rfl) iM iO
theorem m_release {a0 : Int32} (hz : CfZ E N B gr) (hE : 94 ≤ gN E) (hu : u + 400000 < 2 ^ 31) (hw : Wm E N B gr u f) (iM : ∀ g, Wm E N B gr (u + 200000) g → Inv g) (iO : ∀ g, Wo E N B gr (u + 200000) g → Inv g) : CsI E f yX11_release cX11_release 3 yX12_release cX12_release 2 [.int a0] [xI, xU] Inv := by
  obtain ⟨C, A, D, R, o, w1, w2, w3, w4, w5, ⟨g, m, V, tk, hd, hi, tp, tl, im, hL⟩⟩ := hw
  obtain ⟨z1, z2, z3, z4, z5, z6, z7⟩ := id hz
  exact cs_I (u := u + 200000) (c0 := 1) (k0 := 0) w1 w4 w5 (fun r e => k_X11_release E f N B gr C D A hz w1 w2 w3 a0 r e) (fun g w r R9 e => k_X12_release E g hE R w a0 r R9 e) (by decide) (by decide) (fun ex hx => (r_release (by omega) z2 z5 z6 (by omega) im).upR (by omega)) (by decide) rfl (by decide) (Or.inl rfl) iM iO
theorem m_close {a0 : Int32} (hz : CfZ E N B gr) (hE : 94 ≤ gN E) (hu : u + 400000 < 2 ^ 31) (hw : Wm E N B gr u f) (iM : ∀ g, Wm E N B gr (u + 200000) g → Inv g) (iO : ∀ g, Wo E N B gr (u + 200000) g → Inv g) : CsI E f yX11_close cX11_close 3 yX12_close cX12_close 3 [.int a0] [xI, xU] Inv := by
  obtain ⟨C, A, D, R, o, w1, w2, w3, w4, w5, ⟨g, m, V, tk, hd, hi, tp, tl, im, hL⟩⟩ := hw
  obtain ⟨z1, z2, z3, z4, z5, z6, z7⟩ := id hz
  exact cs_I (u := u + 200000) (c0 := 1) (k0 := 0) w1 w4 w5 (fun r e => k_X11_close E f N B gr C D A hz w1 w2 w3 a0 r e) (fun g w r R9 e => k_X12_close E g hE R w a0 r R9 e) (by decide) (by decide) (fun ex hx => (r_close (by omega) z2 z5 z6 (by omega) im).upR (by omega)) (by decide) rfl (by decide) (Or.inl rfl) iM iO
theorem m_about {a0 : Int32} {a1 : Int32} (hz : CfZ E N B gr) (hE : 94 ≤ gN E) (hu : u + 400000 < 2 ^ 31) (hw : Wm E N B gr u f) (iM : ∀ g, Wm E N B gr (u + 200000) g → Inv g) (iO : ∀ g, Wo E N B gr (u + 200000) g → Inv g) : CsI E f yX11_about cX11_about 4 yX12_about cX12_about 4 [.int a0, .int a1] [xI, xA] Inv := by
  obtain ⟨C, A, D, R, o, w1, w2, w3, w4, w5, ⟨g, m, V, tk, hd, hi, tp, tl, im, hL⟩⟩ := hw
  obtain ⟨z1, z2, z3, z4, z5, z6, z7⟩ := id hz
  exact cs_I (u := u + 200000) (c0 := 2) (k0 := 1) w1 w4 w5 (fun r e => k_X11_about E f N B gr C D A hz w1 w2 w3 a0 a1 r e) (fun g w r R9 e => k_X12_about E g hE R w a0 a1 r R9 e) (by decide) (by decide) (fun ex hx => (r_about (by omega) z2 hx im).ret.upR (by omega)) (by decide) rfl (by decide) (Or.inr (RetR.no0 (r_about (ex := fun _ => nI (1 + 1)) (by omega) z2 rfl im))) iM iO
theorem m_flush (hz : CfZ E N B gr) (hE : 94 ≤ gN E) (hu : u + 400000 < 2 ^ 31) (hw : Wm E N B gr u f) (iM : ∀ g, Wm E N B gr (u + 200000) g → Inv g) (iO : ∀ g, Wo E N B gr (u + 200000) g → Inv g) : CsI E f yX11_flush cX11_flush 1 yX12_flush cX12_flush 1 [] [xI, xU] Inv := by
  obtain ⟨C, A, D, R, o, w1, w2, w3, w4, w5, ⟨g, m, V, tk, hd, hi, tp, tl, im, hL⟩⟩ := hw
  obtain ⟨z1, z2, z3, z4, z5, z6, z7⟩ := id hz
  exact cs_I (u := u + 200000) (c0 := 1) (k0 := 0) w1 w4 w5 (fun r e => k_X11_flush E f N B gr C D A hz w1 w2 w3 r e) (fun g w r R9 e => k_X12_flush E g hE R w r R9 e) (by decide) (by decide) (fun ex hx => (r_flush (by omega) z2 z5 (by omega) im).upR (by omega)) (by decide) rfl (by decide) (Or.inl rfl) iM iO
theorem m_apply (hz : CfZ E N B gr) (hE : 94 ≤ gN E) (hu : u + 400000 < 2 ^ 31) (hw : Wm E N B gr u f) (iM : ∀ g, Wm E N B gr (u + 200000) g → Inv g) (iO : ∀ g, Wo E N B gr (u + 200000) g → Inv g) : CsI E f yX11_apply cX11_apply 2 yX12_apply cX12_apply 2 [] [xI, xU] Inv := by
  obtain ⟨C, A, D, R, o, w1, w2, w3, w4, w5, ⟨g, m, V, tk, hd, hi, tp, tl, im, hL⟩⟩ := hw
  obtain ⟨z1, z2, z3, z4, z5, z6, z7⟩ := id hz
  exact cs_I (u := u + 200000) (c0 := 1) (k0 := 0) w1 w4 w5 (fun r e => k_X11_apply E f N B gr C D A hz w1 w2 w3 r e) (fun g w r R9 e => k_X12_apply E g hE R w r R9 e) (by decide) (by decide) (fun ex hx => (r_apply (by omega) z2 z5 (by omega) im).upR (by omega)) (by decide) rfl (by decide) (Or.inl rfl) iM iO
theorem m_link (hz : CfZ E N B gr) (hE : 94 ≤ gN E) (hu : u + 400000 < 2 ^ 31) (hw : Wm E N B gr u f) (iM : ∀ g, Wm E N B gr (u + 200000) g → Inv g) (iO : ∀ g, Wo E N B gr (u + 200000) g → Inv g) : CsI E f yX11_link cX11_link 5 yX12_link cX12_link 6 [] [xI, xU] Inv := by
  obtain ⟨C, A, D, R, o, w1, w2, w3, w4, w5, ⟨g, m, V, tk, hd, hi, tp, tl, im, hL⟩⟩ := hw
  obtain ⟨z1, z2, z3, z4, z5, z6, z7⟩ := id hz
  exact cs_I (u := u + 200000) (c0 := 1) (k0 := 0) w1 w4 w5 (fun r e => k_X11_link E f N B gr C D A hz w1 w2 w3 r e) (fun g w r R9 e => k_X12_link E g hE R w r R9 e) (by decide) (by decide) (fun ex hx => (r_link (by omega) z2 z5 z6 (by omega) im).upR (by omega)) (by decide) rfl (by decide) (Or.inl rfl) iM iO
theorem m_rename (hz : CfZ E N B gr) (hE : 94 ≤ gN E) (hu : u + 400000 < 2 ^ 31) (hw : Wm E N B gr u f) (iM : ∀ g, Wm E N B gr (u + 200000) g → Inv g) (iO : ∀ g, Wo E N B gr (u + 200000) g → Inv g) : CsI E f yX11_rename cX11_rename 9 yX12_rename cX12_rename 10 [] [xI, xU] Inv := by
  obtain ⟨C, A, D, R, o, w1, w2, w3, w4, w5, ⟨g, m, V, tk, hd, hi, tp, tl, im, hL⟩⟩ := hw
  obtain ⟨z1, z2, z3, z4, z5, z6, z7⟩ := id hz
  exact cs_I (u := u + 200000) (c0 := 1) (k0 := 0) w1 w4 w5 (fun r e => k_X11_rename E f N B gr C D A hz w1 w2 w3 r e) (fun g w r R9 e => k_X12_rename E g hE R w r R9 e) (by decide) (by decide) (fun ex hx => (r_rename (by omega) z2 z5 z6 (by omega) im).upR (by omega)) (by decide) rfl (by decide) (Or.inl rfl) iM iO
theorem m_open {a0 : Int32} (hz : CfZ E N B gr) (hE : 94 ≤ gN E) (hu : u + 400000 < 2 ^ 31) (hw : Wm E N B gr u f) (iM : ∀ g, Wm E N B gr (u + 200000) g → Inv g) (iO : ∀ g, Wo E N B gr (u + 200000) g → Inv g) : CsI E f yX11_open cX11_open 9 yX12_open cX12_open 9 [.int a0] [xI, xU, xA] Inv := by
  obtain ⟨C, A, D, R, o, w1, w2, w3, w4, w5, ⟨g, m, V, tk, hd, hi, tp, tl, im, hL⟩⟩ := hw
  obtain ⟨z1, z2, z3, z4, z5, z6, z7⟩ := id hz
  exact cs_I (u := u + 200000) (c0 := 2) (k0 := 2) w1 w4 w5 (fun r e => k_X11_open E f N B gr C D A hz w1 w2 w3 a0 r e) (fun g w r R9 e => k_X12_open E g hE R w a0 r R9 e) (by decide) (by decide) (fun ex hx => (r_open (by omega) z2 z5 z6 (by omega) hx im).upR (by omega)) (by decide) rfl (by decide) (Or.inl rfl) iM iO
theorem m_undo (hz : CfZ E N B gr) (hE : 94 ≤ gN E) (hu : u + 400000 < 2 ^ 31) (hw : Wm E N B gr u f) (iM : ∀ g, Wm E N B gr (u + 200000) g → Inv g) (iO : ∀ g, Wo E N B gr (u + 200000) g → Inv g) : CsI E f yX11_undo cX11_undo 1 yX12_undo cX12_undo 1 [] [xI, xU] Inv := by
  obtain ⟨C, A, D, R, o, w1, w2, w3, w4, w5, ⟨g, m, V, tk, hd, hi, tp, tl, im, hL⟩⟩ := hw
  obtain ⟨z1, z2, z3, z4, z5, z6, z7⟩ := id hz
  exact cs_I (u := u + 200000) (c0 := 1) (k0 := 0) w1 w4 w5 (fun r e => k_X11_undo E f N B gr C D A hz w1 w2 w3 r e) (fun g w r R9 e => k_X12_undo E g hE R w r R9 e) (by decide) (by decide) (fun ex hx => (r_undo (by omega) z2 z5 z6 (by omega) im).upR (by omega)) (by decide) rfl (by decide) (Or.inl rfl) iM iO
theorem m_end (hz : CfZ E N B gr) (hE : 94 ≤ gN E) (hu : u + 400000 < 2 ^ 31) (hw : Wm E N B gr u f) (iM : ∀ g, Wm E N B gr (u + 200000) g → Inv g) (iO : ∀ g, Wo E N B gr (u + 200000) g → Inv g) : CsI E f yX11_end cX11_end 2 yX12_end cX12_end 2 [] [xI, xU] Inv := by
  obtain ⟨C, A, D, R, o, w1, w2, w3, w4, w5, ⟨g, m, V, tk, hd, hi, tp, tl, im, hL⟩⟩ := hw
  obtain ⟨z1, z2, z3, z4, z5, z6, z7⟩ := id hz
  exact cs_I (u := u + 200000) (c0 := 1) (k0 := 0) w1 w4 w5 (fun r e => k_X11_end E f N B gr C D A hz w1 w2 w3 r e) (fun g w r R9 e => k_X12_end E g hE R w r R9 e) (by decide) (by decide) (fun ex hx => (r_end (by omega) z2 z5 z6 (by omega) im).upR (by omega)) (by decide) rfl (by decide) (Or.inl rfl) iM iO
theorem m_seen {a0 : Int32} {a1 : Int32} (hz : CfZ E N B gr) (hE : 94 ≤ gN E) (hu : u + 400000 < 2 ^ 31) (hw : Wm E N B gr u f) (iM : ∀ g, Wm E N B gr (u + 200000) g → Inv g) (iO : ∀ g, Wo E N B gr (u + 200000) g → Inv g) : CsI E f yX11_seen cX11_seen 3 yX12_seen cX12_seen 3 [.int a0, .int a1] [xI, xN] Inv := by
  obtain ⟨C, A, D, R, o, w1, w2, w3, w4, w5, ⟨g, m, V, tk, hd, hi, tp, tl, im, hL⟩⟩ := hw
  obtain ⟨z1, z2, z3, z4, z5, z6, z7⟩ := id hz
  exact cs_I (u := u + 200000) (c0 := 3) (k0 := 1) w1 w4 w5 (fun r e => k_X11_seen E f N B gr C D A hz w1 w2 w3 a0 a1 r e) (fun g w r R9 e => k_X12_seen E g hE R w a0 a1 r R9 e) (by decide) (by decide) (fun ex hx => (r_seen (by omega) z2 hx im).ret.upR (by omega)) (by decide) rfl (by decide) (Or.inr (RetR.no0 (r_seen (ex := fun _ => nI (1 + 1)) (by omega) z2 rfl im))) iM iO
theorem m_count {a0 : Int32} (hz : CfZ E N B gr) (hE : 94 ≤ gN E) (hu : u + 400000 < 2 ^ 31) (hw : Wm E N B gr u f) (iM : ∀ g, Wm E N B gr (u + 200000) g → Inv g) (iO : ∀ g, Wo E N B gr (u + 200000) g → Inv g) : CsI E f yX11_count cX11_count 2 yX12_count cX12_count 2 [.int a0] [xA] Inv := by
  obtain ⟨C, A, D, R, o, w1, w2, w3, w4, w5, ⟨g, m, V, tk, hd, hi, tp, tl, im, hL⟩⟩ := hw
  obtain ⟨z1, z2, z3, z4, z5, z6, z7⟩ := id hz
  exact cs_I (u := u + 200000) (c0 := 2) (k0 := 0) w1 w4 w5 (fun r e => k_X11_count E f N B gr C D A hz w1 w2 w3 a0 r e) (fun g w r R9 e => k_X12_count E g hE R w a0 r R9 e) (by decide) (by decide) (fun ex hx => (r_count (by omega) z2 hx im).ret.upR (by omega)) (by decide) rfl (by decide) (Or.inr (RetR.no0 (r_count (ex := fun _ => nI (0 + 1)) (by omega) z2 rfl im))) iM iO
theorem m_truncate {a0 : Int32} {a1 : Int32} (hz : CfZ E N B gr) (hE : 94 ≤ gN E) (hu : u + 400000 < 2 ^ 31) (hw : Wm E N B gr u f) (iM : ∀ g, Wm E N B gr (u + 200000) g → Inv g) (iO : ∀ g, Wo E N B gr (u + 200000) g → Inv g) : CsI E f yX11_truncate cX11_truncate 5 yX12_truncate cX12_truncate 4 [.int a0, .int a1] [xI, xU] Inv := by
  obtain ⟨C, A, D, R, o, w1, w2, w3, w4, w5, ⟨g, m, V, tk, hd, hi, tp, tl, im, hL⟩⟩ := hw
  obtain ⟨z1, z2, z3, z4, z5, z6, z7⟩ := id hz
  exact cs_I (u := u + 200000) (c0 := 1) (k0 := 0) w1 w4 w5 (fun r e => k_X11_truncate E f N B gr C D A hz w1 w2 w3 a0 a1 r e) (fun g w r R9 e => k_X12_truncate E g hE R w a0 a1 r R9 e) (by decide) (by decide) (fun ex hx => (r_truncate (by omega) z2 z5 z6 (by omega) im).upR (by omega)) (by decide) rfl (by decide) (Or.inl rfl) iM iO
theorem m_write {a0 : Int32} {a1 : Int32} (hz : CfZ E N B gr) (hE : 94 ≤ gN E) (hu : u + 400000 < 2 ^ 31) (hw : Wm E N B gr u f) (iM : ∀ g, Wm E N B gr (u + 200000) g → Inv g) (iO : ∀ g, Wo E N B gr (u + 200000) g → Inv g) : CsI E f yX11_write cX11_write 5 yX12_write cX12_write 5 [.int a0, .int a1] [xI, xU] Inv := by
  obtain ⟨C, A, D, R, o, w1, w2, w3, w4, w5, ⟨g, m, V, tk, hd, hi, tp, tl, im, hL⟩⟩ := hw
  obtain ⟨z1, z2, z3, z4, z5, z6, z7⟩ := id hz
  exact cs_I (u := u + 200000) (c0 := 1) (k0 := 0) w1 w4 w5 (fun r e => k_X11_write E f N B gr C D A hz w1 w2 w3 a0 a1 r e) (fun g w r R9 e => k_X12_write E g hE R w a0 a1 r R9 e) (by decide) (by decide) (fun ex hx => (r_write (by omega) z2 z5 z6 (by omega) im).upR (by omega)) (by decide) rfl (by decide) (Or.inl rfl) iM iO
theorem m_put {a0 : Int32} (hz : CfZ E N B gr) (hE : 94 ≤ gN E) (hu : u + 400000 < 2 ^ 31) (hw : Wm E N B gr u f) (iM : ∀ g, Wm E N B gr (u + 200000) g → Inv g) (iO : ∀ g, Wo E N B gr (u + 200000) g → Inv g) : CsI E f yX11_put cX11_put 6 yX12_put cX12_put 5 [.int a0] [xI, xU] Inv := by
  obtain ⟨C, A, D, R, o, w1, w2, w3, w4, w5, ⟨g, m, V, tk, hd, hi, tp, tl, im, hL⟩⟩ := hw
  obtain ⟨z1, z2, z3, z4, z5, z6, z7⟩ := id hz
  exact cs_I (u := u + 200000) (c0 := 1) (k0 := 0) w1 w4 w5 (fun r e => k_X11_put E f N B gr C D A hz w1 w2 w3 a0 r e) (fun g w r R9 e => k_X12_put E g hE R w a0 r R9 e) (by decide) (by decide) (fun ex hx => (r_put (by omega) z2 z5 z6 (by omega) im).upR (by omega)) (by decide) rfl (by decide) (Or.inl rfl) iM iO
theorem m_fill {a0 : Int32} {a1 : Int32} {a2 : Int32} {a3 : Int32} (hz : CfZ E N B gr) (hE : 94 ≤ gN E) (hu : u + 400000 < 2 ^ 31) (hw : Wm E N B gr u f) (iM : ∀ g, Wm E N B gr (u + 200000) g → Inv g) (iO : ∀ g, Wo E N B gr (u + 200000) g → Inv g) : CsI E f yX11_fill cX11_fill 7 yX12_fill cX12_fill 6 [.int a0, .int a1, .int a2, .int a3] [xI, xU, xA] Inv := by
  obtain ⟨C, A, D, R, o, w1, w2, w3, w4, w5, ⟨g, m, V, tk, hd, hi, tp, tl, im, hL⟩⟩ := hw
  obtain ⟨z1, z2, z3, z4, z5, z6, z7⟩ := id hz
  exact cs_I (u := u + 200000) (c0 := 2) (k0 := 2) w1 w4 w5 (fun r e => k_X11_fill E f N B gr C D A hz w1 w2 w3 a0 a1 a2 a3 r e) (fun g w r R9 e => k_X12_fill E g hE R w a0 a1 a2 a3 r R9 e) (by decide) (by decide) (fun ex hx => (r_fill (by omega) z2 z5 z6 (by omega) hx im).upR (by omega)) (by decide) rfl (by decide) (Or.inl rfl) iM iO
theorem m_punch {a0 : Int32} {a1 : Int32} {a2 : Int32} (hz : CfZ E N B gr) (hE : 94 ≤ gN E) (hu : u + 400000 < 2 ^ 31) (hw : Wm E N B gr u f) (iM : ∀ g, Wm E N B gr (u + 200000) g → Inv g) (iO : ∀ g, Wo E N B gr (u + 200000) g → Inv g) : CsI E f yX11_punch cX11_punch 11 yX12_punch cX12_punch 12 [.int a0, .int a1, .int a2] [xI, xU] Inv := by
  obtain ⟨C, A, D, R, o, w1, w2, w3, w4, w5, ⟨g, m, V, tk, hd, hi, tp, tl, im, hL⟩⟩ := hw
  obtain ⟨z1, z2, z3, z4, z5, z6, z7⟩ := id hz
  exact cs_I (u := u + 200000) (c0 := 1) (k0 := 0) w1 w4 w5 (fun r e => k_X11_punch E f N B gr C D A hz w1 w2 w3 a0 a1 a2 r e) (fun g w r R9 e => k_X12_punch E g hE R w a0 a1 a2 r R9 e) (by decide) (by decide) (fun ex hx => (r_punch (by omega) z2 z5 z6 (by omega) im).upR (by omega)) (by decide) rfl (by decide) (Or.inl rfl) iM iO
theorem m_copy (hz : CfZ E N B gr) (hE : 94 ≤ gN E) (hu : u + 400000 < 2 ^ 31) (hw : Wm E N B gr u f) (iM : ∀ g, Wm E N B gr (u + 200000) g → Inv g) (iO : ∀ g, Wo E N B gr (u + 200000) g → Inv g) : CsI E f yX11_copy cX11_copy 6 yX12_copy cX12_copy 8 [] [xI, xU] Inv := by
  obtain ⟨C, A, D, R, o, w1, w2, w3, w4, w5, ⟨g, m, V, tk, hd, hi, tp, tl, im, hL⟩⟩ := hw
  obtain ⟨z1, z2, z3, z4, z5, z6, z7⟩ := id hz
  exact cs_I (u := u + 200000) (c0 := 1) (k0 := 0) w1 w4 w5 (fun r e => k_X11_copy E f N B gr C D A hz w1 w2 w3 r e) (fun g w r R9 e => k_X12_copy E g hE R w r R9 e) (by decide) (by decide) (fun ex hx => (r_copy (by omega) z2 z5 z6 (by omega) im).upR (by omega)) (by decide) rfl (by decide) (Or.inl rfl) iM iO
theorem m_clear (hz : CfZ E N B gr) (hE : 94 ≤ gN E) (hu : u + 400000 < 2 ^ 31) (hw : Wm E N B gr u f) (iM : ∀ g, Wm E N B gr (u + 200000) g → Inv g) (iO : ∀ g, Wo E N B gr (u + 200000) g → Inv g) : CsI E f yX11_clear cX11_clear 8 yX12_clear cX12_clear 7 [] [xI, xU] Inv := by
  obtain ⟨C, A, D, R, o, w1, w2, w3, w4, w5, ⟨g, m, V, tk, hd, hi, tp, tl, im, hL⟩⟩ := hw
  obtain ⟨z1, z2, z3, z4, z5, z6, z7⟩ := id hz
  exact cs_I (u := u + 200000) (c0 := 1) (k0 := 0) w1 w4 w5 (fun r e => k_X11_clear E f N B gr C D A hz w1 w2 w3 r e) (fun g w r R9 e => k_X12_clear E g hE R w r R9 e) (by decide) (by decide) (fun ex hx => (r_clear (by omega) z2 z5 z6 (by omega) im).upR (by omega)) (by decide) rfl (by decide) (Or.inl rfl) iM iO
theorem m_check (hz : CfZ E N B gr) (hE : 94 ≤ gN E) (hu : u + 400000 < 2 ^ 31) (hw : Wm E N B gr u f) (iM : ∀ g, Wm E N B gr (u + 200000) g → Inv g) (iO : ∀ g, Wo E N B gr (u + 200000) g → Inv g) : CsI E f yX11_check cX11_check 1 yX12_check cX12_check 2 [] [xI] Inv := by
  obtain ⟨C, A, D, R, o, w1, w2, w3, w4, w5, ⟨g, m, V, tk, hd, hi, tp, tl, im, hL⟩⟩ := hw
  obtain ⟨z1, z2, z3, z4, z5, z6, z7⟩ := id hz
  exact cs_I (u := u + 200000) (c0 := 1) (k0 := 0) w1 w4 w5 (fun r e => k_X11_check E f N B gr C D A hz w1 w2 w3 r e) (fun g w r R9 e => k_X12_check E g hE R w r R9 e) (by decide) (by decide) (fun ex hx => (r_check (by omega) z2 im).ret.upR (by omega)) (by decide) rfl (by decide) (Or.inr (RetR.no0 (r_check (ex := fun _ => nI (0 + 1)) (by omega) z2 im))) iM iO
theorem m_tree {a0 : Int32} (hz : CfZ E N B gr) (hE : 94 ≤ gN E) (hu : u + 400000 < 2 ^ 31) (hw : Wm E N B gr u f) (iM : ∀ g, Wm E N B gr (u + 200000) g → Inv g) (iO : ∀ g, Wo E N B gr (u + 200000) g → Inv g) : CsJ E f yX11_tree cX11_tree 10 yX12_tree cX12_tree 2 [.int a0] [xI] Inv := by
  obtain ⟨C, A, D, R, o, w1, w2, w3, w4, w5, ⟨g, m, V, tk, hd, hi, tp, tl, im, hL⟩⟩ := hw
  obtain ⟨z1, z2, z3, z4, z5, z6, z7⟩ := id hz
  exact cs_J (u := u + 200000) (c0 := 1) (k0 := 0) w1 w4 w5 (fun r e => k_X11_tree E f N B gr C D A hz w1 w2 w3 a0 r e) (fun g w r R9 e => k_X12_tree E g hE R w a0 r R9 e) (by decide) (by decide) (fun ex hx => (r_tree (by omega) z2 im).ret.upR (by omega)) (by decide) rfl (by decide) (Or.inr (RetR.no0 (r_tree (ex := fun _ => nI (0 + 1)) (by omega) z2 im))) iM iO
theorem m_sync {a0 : Int32} (hz : CfZ E N B gr) (hE : 94 ≤ gN E) (hu : u + 400000 < 2 ^ 31) (hw : Wm E N B gr u f) (iM : ∀ g, Wm E N B gr (u + 200000) g → Inv g) (iO : ∀ g, Wo E N B gr (u + 200000) g → Inv g) : CsI E f yX11_sync cX11_sync 6 yX12_sync cX12_sync 7 [.int a0] [xI, xU] Inv := by
  obtain ⟨C, A, D, R, o, w1, w2, w3, w4, w5, ⟨g, m, V, tk, hd, hi, tp, tl, im, hL⟩⟩ := hw
  obtain ⟨z1, z2, z3, z4, z5, z6, z7⟩ := id hz
  exact cs_I (u := u + 200000) (c0 := 1) (k0 := 0) w1 w4 w5 (fun r e => k_X11_sync E f N B gr C D A hz w1 w2 w3 a0 r e) (fun g w r R9 e => k_X12_sync E g hE R w a0 r R9 e) (by decide) (by decide) (fun ex hx => (r_sync (by omega) z2 im).upR (by omega)) (by decide) rfl (by decide) (Or.inl rfl) iM iO
end PXS
