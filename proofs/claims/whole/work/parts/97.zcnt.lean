set_option maxRecDepth 100000 in
set_option maxHeartbeats 4000000 in
theorem v_X11_count (E : gE) (f : Nat → va_E) (tp : Nat → Int32) (fd : Nat) (mo : Int32) (hE : 350 ≤ gN E) (hm : MnV E f tp fd mo) (hfd : fd ≤ 1024) (N : Nat) (d : DkT) (on le wr ss : Int32) (hE1 : 350 + N ≤ gN E) (hN : N ≤ 1024) (hdv : DkV E f N d on le wr ss) (hdo : dOk N d) (x : Int32) (hx : x < 0 ∨ 17 < x) : Ct E 7 yX11_count cX11_count 2 (some .int) [.ref (gAd E (0)), .int (x)] f (fun v g => False, fun X g => X = "java/lang/IllegalArgumentException" ∧ f = g) := by
  have hdv2 : f 2 = .inr (2, [.int (nI N), .ref (gAd E 3), .ref (gAd E 4), .ref (gAd E 5), .ref (gAd E 6), .ref (gAd E 7), .int (nI d.2.2.2.2.2.1), .int (nI d.2.2.2.2.2.2), .int on, .int le, .int wr, .int ss]) := by obtain ⟨dw, dla, dbo, dsy, dva, da, dn⟩ := d; exact hdv.1
  have hdv3 : f 3 = oI (gDA E) N d.1 := by obtain ⟨dw, dla, dbo, dsy, dva, da, dn⟩ := d; exact hdv.2.1
  obtain ⟨m0, m1⟩ := id hm
  refine Ct.of (by decide) (Nat.le_of_ble_eq_true rfl) (fun sz => ?_)
  refine G.eql [(0, .ref (gAd E (0))), (1, .int (x))] rfl ?_
  refine G.go tv_X11_count 1 1 [(0, .ref (gAd E (0))), (1, .int (x))] [.int (x)] rfl ?_
  refine G.if_lt 10 (tbd tv_X11_count rfl) (by decide) (fun c1 => ?_) (fun c1 => ?_)
  · skip
    exact G.thrW (cls := "java/lang/IllegalArgumentException") (text := "what is not 0 .. 17") (names := ["java/lang/RuntimeException", "java/lang/Exception"]) (by decide +kernel) (by decide +kernel) w_828 w_168 (own := "LedgerFiles") rfl (by decide +kernel) (by decide +kernel) at_X11_205 (tbd tv_X11_count rfl) (tbd tv_X11_count rfl) (tbd tv_X11_count rfl) (tbd tv_X11_count rfl) (tbd tv_X11_count rfl) (Nat.le_of_ble_eq_true rfl) (Nat.le_of_ble_eq_true rfl) (⟨rfl, rfl⟩)
  · skip
    refine G.go tv_X11_count 2 7 [(0, .ref (gAd E (0))), (1, .int (x))] [.int ((17 : Int32)), .int (x)] rfl ?_
    refine G.cmp_le 21 (tbd tv_X11_count rfl) (by decide) (fun c7 => absurd c7 (fun q => hx.elim c1 (fun h => Int32.lt_irrefl (Int32.lt_of_lt_of_le h q)))) (fun c7 => ?_)
    exact G.thrW (cls := "java/lang/IllegalArgumentException") (text := "what is not 0 .. 17") (names := ["java/lang/RuntimeException", "java/lang/Exception"]) (by decide +kernel) (by decide +kernel) w_828 w_168 (own := "LedgerFiles") rfl (by decide +kernel) (by decide +kernel) at_X11_205 (tbd tv_X11_count rfl) (tbd tv_X11_count rfl) (tbd tv_X11_count rfl) (tbd tv_X11_count rfl) (tbd tv_X11_count rfl) (Nat.le_of_ble_eq_true rfl) (Nat.le_of_ble_eq_true rfl) (⟨rfl, rfl⟩)
