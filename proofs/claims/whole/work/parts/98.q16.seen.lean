/-! ===== pure: seen ===== -/
section PYP
variable {N B gr r u : Nat} {V W : Nat → Rw} {m m' : M5} {tk tk' : Nat → Bool} {A A' : MS} {D D' D2 : CfT} {R R' : RfT} {g : Bool} {hd hi hd' hi' : Nat → Nat} {tp : Nat → Int32} {tl : Nat} {ow : Nat → Int} {ex : Nat → Int32} {s0 : S3} {l : List Nat} {i k t b : Nat}
/-- between calls both see alike, every block -/
theorem IM.see (hN : N ≤ 1024) (h : IM N B gr u g A D R m V tk hd hi tp tl) (hb : b < N) : vA A b = rSee R true b := by
  have em : mA A = m := h.1.1.1
  by_cases c : 43 ≤ b
  · rw [(h.1.2.1.2 b c hb).1]
    by_cases cu : btM (V 43) b = 1
    · exact h.1.1.agu b c hb cu
    · have ho : oA A b = none := Classical.byContradiction (fun z => cu (h.2.2.2.2.2.2.2.2.2.2.1 b z))
      have c0 : btM (V 43) b = 0 := by
        have : btM (V 43) b < 2 := Nat.mod_lt _ (by decide)
        omega
      rw [vA_o, ho, em, ((h.1.1.2.2.1 b c hb).2 c0).1]
      rfl
  · have ho : oA A b = none := Classical.byContradiction (fun z => by
      obtain ⟨n, tc, n1, n2, n3, n4, n5⟩ := h.1.1.2.1
      obtain ⟨i, i1, i2⟩ := n5 b z
      have := (n3 i i1).2.1
      omega)
    have hw : wOw R b = none := Classical.byContradiction (fun z => c (h.1.2.2.1 b (by omega) z).1)
    rw [vA_o, ho, em, rSee_t, hw, h.1.2.1.1.bef hN hb]
theorem r_seen {a0 a1 : Int32} (hN1 : 61 ≤ N) (hN : N ≤ 1024) (hx : ex 3 = 2) (h : IM N B gr u g A D R m V tk hd hi tp tl) (hL : LH V hd hi := by assumption) : RetR N B gr (u + 100) ex (d_X11_seen N B gr A D a0 a1) (e_seen R a0 a1) := by
  obtain ⟨n1, R1, n2, h1, ot, t0, -, -⟩ := h.nm hN
  have s1 : rS R1 1 = nI N := h1.1.2.1.1.2.2.2.2.2.2.1
  rw [d_X11_seen, bndF_l n1, e_seen, bnd2_o n2, i00]
  have bad : RetR N B gr (u + 100) ex (bndF (d_X11_needByte_26 N B gr A D) (fun v62 A62 D62 => seeB N (vA A62) a0 (fun y64 => ld y64 128 a1 (fun v65 => some (.inl ((v65) &&& ((255 : Int32)), A62, D62)))))) (bnd2 (e_refuse R1 1 2) (fun v135 R135 => if v135 = 0 then bnd (e_seenNumber R135 a0 a1 ((1 : Int32))) (fun v136 => some (v136, R135)) else some ((0 : Int32), R135))) := by
    rw [bnd2_o ref1, i10]
    exact RetR.no h1.thr (by omega) (by rw [rS_0, hx]) (by decide) rfl rfl
  rw [d_X11_needByte, e_isByte, s1]
  by_cases c1 : a0 < 0
  · rw [if_pos c1, if_pos c1]
    exact bad
  rw [if_neg c1, if_neg c1]
  by_cases c2 : nI N ≤ a0
  · rw [if_pos c2, if_pos c2]
    exact bad
  rw [if_neg c2, if_neg c2]
  by_cases c3 : a1 < 0
  · rw [if_pos c3, if_pos c3]
    exact bad
  rw [if_neg c3, if_neg c3]
  by_cases c4 : (128 : Int32) ≤ a1
  · rw [if_pos c4, if_neg (fun z => i_ltn z c4)]
    exact bad
  rw [if_neg c4, if_pos (Int32.not_le.mp c4), bnd_o rfl, i10, bnd2_o ref0, i00]
  obtain ⟨b, hb, rfl⟩ := nI_of c1
  obtain ⟨o, ho, rfl⟩ := nI_of c3
  have hbN : b < N := by
    refine Classical.byContradiction (fun z => c2 (nI_le (by omega) hb))
  have ho8 : o < 128 := by
    refine Classical.byContradiction (fun z => c4 ?_)
    exact nI_le (a := 128) (by omega) ho
  have h2 := h1.thr (v := 0)
  show RetR N B gr (u + 100) ex (seeB N (vA A) (nI b) (fun y64 => ld y64 128 (nI o) (fun v65 => some (.inl ((v65) &&& ((255 : Int32)), A, D))))) _
  rw [see_n hbN hN, ld_n ho8 (by decide), ub_and, bnd_o (z_s1 (by omega) h2.1.2.1.1.lk (by omega)), ← h2.see hN hbN]
  exact RetR.ok h2 (by omega) rS_0 rfl rfl
end PYP
