/-! ===== format: the reference ===== -/
section PZR9
variable {N B gr : Nat} {R R0 R' : RfT} {h0 : Hw} {pre : List HOp}
theorem stV_wB {g : Nat → Int32} {a : Nat} {v : Int32} : ∀ n, stV g a v n = wB g a v n
  | 0 => rfl
  | n + 1 => by
    show upd (stV g a v n) (a + n) (vp_nar .byte ((v.toUInt32 >>> (((8 : Int32) * nI n).toUInt32 &&& Int32.toUInt32 31)).toInt32.toInt8.toInt32)) = _
    rw [mul8, stV_wB n]
    rfl
def FmR (N B : Nat) (h0 : Hw) (pre : List HOp) (R0 R : RfT) : Prop := ((hRn N B (true, h0) pre).1 = true ∧ RH N B (hRn N B (true, h0) pre).2 R ∧ WkO N R ∧ Fq [0, 9, 10, 12, 13, 14, 18, 20, 22] [6, 7, 8, 15, 17, 39, 40, 44] R0 R) ∨ ((hRn N B (true, h0) pre).1 = false ∧ Dd N R0 (hRn N B (true, h0) pre).2 R)
theorem FmR.b44 (h : FmR N B h0 pre R0 R) : Byt (rA R 44) := by
  rcases h with ⟨h1, h2, h3, h4⟩ | ⟨h1, h2⟩
  · exact h2.b44
  · obtain ⟨-, -, B, ok, -⟩ := h2
    exact ok.b44
theorem FmR.a44 {g : Nat → Int32} (h : FmR N B h0 pre R0 R) (hg : Byt g) : FmR N B h0 pre R0 (setA R 44 g) := by
  rcases h with ⟨h1, h2, h3, h4⟩ | ⟨h1, h2⟩
  · exact Or.inl ⟨h1, h2.a44 hg, h3.fq (Fq.a (S := []) (T := [44]) (by decide)) (by decide) (by decide) (by decide) (by decide) (by decide), h4.tr (Fq.a (by decide))⟩
  · exact Or.inr ⟨h1, h2.a44 hg⟩
theorem FmR.go {t : Nat} {x : Rw} (hN : N ≤ 1024) (h : FmR N B h0 pre R0 R) (hsp : hSp h0 + pre.length + 1 < 2 ^ 31) (ht : t < N) (hx : nr (rA R 44) = x) : FmR N B h0 (pre ++ [some (t, x)]) R0 (rGo R t) := by
  have b := h.b44
  have hs : hSp (hRn N B (true, h0) pre).2 ≤ hSp h0 + pre.length := hRn_sp pre (true, h0)
  rcases h with ⟨h1, h2, h3, h4⟩ | ⟨h1, h2⟩
  · have e : hRn N B (true, h0) (pre ++ [some (t, x)]) = aPl N B t x (hRn N B (true, h0) pre).2 := by rw [hRn_s, hB_t h1]; rfl
    unfold FmR
    rw [e]
    rcases z_hand79 hN h2 h3 ht (by omega) b hx with ⟨a1, a2, a3⟩ | ⟨a1, a2⟩
    · exact Or.inl ⟨a1, a2, h3.fq a3 (by decide) (by decide) (by decide) (by decide) (by decide), h4.tr (a3.wk (by decide) (by decide))⟩
    · exact Or.inr ⟨a1, a2.fq h4 (by decide) (by decide)⟩
  · have e : hRn N B (true, h0) (pre ++ [some (t, x)]) = hRn N B (true, h0) pre := by rw [hRn_s, hB_f h1]
    have e2 : rGo R t = R := if_pos h2.1.1
    unfold FmR
    rw [e, e2]
    exact Or.inr ⟨h1, h2⟩
theorem FmR.se (hN : N ≤ 1024) (h : FmR N B h0 pre R0 R) : FmR N B h0 (pre ++ [none]) R0 (rSett R) := by
  rcases h with ⟨h1, h2, h3, h4⟩ | ⟨h1, h2⟩
  · have e : hRn N B (true, h0) (pre ++ [none]) = aSe N (hRn N B (true, h0) pre).2 := by rw [hRn_s, hB_t h1]; rfl
    unfold FmR
    rw [e]
    rcases (z_sett hN h2 h3).2 with ⟨a1, a2, a3⟩ | ⟨a1, a2⟩
    · exact Or.inl ⟨a1, a2, h3.fq a3 (by decide) (by decide) (by decide) (by decide) (by decide), h4.tr (a3.wk (by decide) (by decide))⟩
    · exact Or.inr ⟨a1, a2.fq h4 (by decide) (by decide)⟩
  · have e : hRn N B (true, h0) (pre ++ [none]) = hRn N B (true, h0) pre := by rw [hRn_s, hB_f h1]
    have e2 : rSett R = R := by
      have q := dd_sett h2
      obtain ⟨-, -, B, ok, -⟩ := h2
      rw [e_settle, gd_t ⟨B, ok⟩] at q
      exact Option.some.inj q
    unfold FmR
    rw [e, e2]
    exact Or.inr ⟨h1, h2⟩
theorem FmR.ext (h : FmR N B h0 pre R0 R) (z : rS R 11 = 0) (l : List HOp) : FmR N B h0 (pre ++ l) R0 R := by
  rcases h with ⟨h1, h2, h3, h4⟩ | ⟨h1, h2⟩
  · exact absurd z h2.on
  · unfold FmR
    rw [hRn_a, hRn_f h1]
    exact Or.inr ⟨h1, h2⟩
theorem FmR.row {t : Nat} {x : Rw} {g : Nat → Int32} (hN : N ≤ 1024) (h : FmR N B h0 pre R0 R) (hsp : hSp h0 + pre.length + 1 < 2 ^ 31) (ht : t < N) (hg : Byt g) (hx : nr g = x) : FmR N B h0 (pre ++ [some (t, x)]) R0 (rGo (setA R 44 g) t) := (h.a44 hg).go hN hsp ht (by rw [rA_e]; exact hx)
theorem or8 (a b : Int32) : (a ||| b.toInt8.toInt32).toInt8.toInt32 = (a ||| b).toInt8.toInt32 := by
  rw [Int32.toInt8_or, Int32.toInt8_or]
  simp
theorem Eb_bt {g g' : Nat → Int32} (h : Eb 128 g g') : ∀ k, k ≤ 1024 → Eb 128 (fmBt g N k) (cBt N g' k)
  | 0, _ => h
  | k + 1, hk => by
    have ih := Eb_bt h k (by omega)
    by_cases c : k < 61 ∨ N ≤ k
    · rw [fmBt_y c, cBt_y c, or8, ih (k / 8) (by omega)]
      exact ih.up1
    · rw [fmBt_n c, cBt_n c]
      exact ih
theorem Eb.tr {n : Nat} {a b c : Nat → Int32} (h : Eb n a b) (h2 : Eb n b c) : Eb n a c := fun i hi => (h i hi).trans (h2 i hi)
theorem Eb_z {g : Nat → Int32} : Eb 128 (flt g 0 128 0) (flt z0 0 128 0) := fun i hi => (flt_at (Nat.zero_le _) hi).trans (flt_at (Nat.zero_le _) hi).symm
theorem rHo_m {X : RfT} : nr (rHo X 0 0) = mHd [] 0 := by
  have e2 : rHo2 X 0 0 = s_four (s_two (flt (rA X 44) 0 128 0) 0 (nI 0)) 2 0 := by
    unfold rHo2
    rw [stV_wB, stV_wB, wB_2, wB_4]
  have q : Eb 128 (s_four (s_two (flt (rA X 44) 0 128 0) 0 (nI 0)) 2 0) (mH0 0 0) := ((Eb_flt).two).four
  unfold rHo mHd
  rw [e2, stV_wB, wB_4]
  have e3 : mixV 7 (s_four (s_two (flt (rA X 44) 0 128 0) 0 (nI 0)) 2 0) 6 = mixV 7 (mH0 0 0) 6 := Eb.mix 7 6 (q.wk (by decide))
  show nr (s_four _ 6 (mixV 7 (s_four (s_two (flt (rA X 44) 0 128 0) 0 (nI 0)) 2 0) 6)) = nr (s_four (mH0 0 0) 6 (mixV 7 (mH0 0 0) 6))
  rw [e3]
  exact (q.four).row
theorem rHd_m {X : RfT} (h : rS X 1 = nI N) : nr (rHdO X) = nr (hRow N z0) := by
  unfold rHdO hRow
  rw [stV_wB, stV_wB, stV_wB, stV_wB, wB_4, wB_2, wB_1, wB_1, h]
  exact (((((Eb_z).four).two).up1).up1 : Eb 128 _ _).row
theorem FmR.ph (hN : N ≤ 1024) (hN1 : 61 ≤ N) (h : FmR N B h0 pre R0 R) (hsp : hSp h0 + pre.length + 1 < 2 ^ 31) (z : ¬ rS R 11 = 0) : FmR N B h0 (pre ++ [some (1, mHd [] 0)]) R0 (rPh R 0 0) := by
  have b := h.b44
  rcases h with ⟨h1, h2, h3, h4⟩ | ⟨h1, h2⟩
  · have q : FmR N B h0 pre R0 (setS R 22 0) := Or.inl ⟨h1, h2.s (by decide), h3.fq (Fq.s (S := [22]) (T := []) (by decide)) (by decide) (by decide) (by decide) (by decide) (by decide), h4.tr (Fq.s (by decide))⟩
    exact q.row hN hsp (by omega) (stV_b (stV_b (stV_b (Byt_flt b rfl) _) _) _) rHo_m
  · exact absurd h2.1.1 z
theorem FmR.fmC (hN : N ≤ 1024) (hN1 : 61 ≤ N) (hsp : hSp h0 + 100 < 2 ^ 31) (h : FmR N B h0 (fmP N 0) R0 R) : FmR N B h0 (fmP N 3) R0 (fmC (fmA R N)) := by
  have h1 := h.row (t := 43) (x := nr (fRow N 43 z0)) hN (by rw [fmP_l]; omega) (by omega) (fmBt_b (Byt_flt h.b44 rfl) 1024 (N := N)) ((Eb_bt (N := N) Eb_z 1024 (Nat.le_refl _)).row)
  have h2 := h1.row (t := 44) (x := nr (fRow N 44 z0)) hN (show _ + (fmP N 1).length + 1 < _ by rw [fmP_l]; omega) (by omega) ((Byt_flt h1.b44 rfl).upd8 : Byt (upd (flt _ 0 128 0) 0 (vp_nar .byte (1 : Int32)))) ((Eb_z.up1 : Eb 128 _ _).row)
  have h3 := h2.row (t := 45) (x := nr (fRow N 45 z0)) hN (show _ + (fmP N 2).length + 1 < _ by rw [fmP_l]; omega) (by omega) ((Byt_flt h2.b44 rfl).upd8.upd8 : Byt (upd (upd (flt _ 0 128 0) 0 (vp_nar .byte (2 : Int32))) 1 (vp_nar .byte (1 : Int32)))) ((Eb_z.up1.up1 : Eb 128 _ _).row)
  exact h3
theorem fRow_o {t : Nat} (h : 46 ≤ t) : fRow N t z0 = flt z0 0 128 0 := by
  unfold fRow
  rw [if_neg (by omega), if_neg (by omega), if_neg (by omega)]
theorem FmR.pzs (hN : N ≤ 1024) (hN1 : 61 ≤ N) (hsp : hSp h0 + 100 < 2 ^ 31) (h : FmR N B h0 (fmP N 3) R0 R) : ∀ j, j ≤ 15 → FmR N B h0 (fmP N (3 + j)) R0 (rPzs R j)
  | 0, _ => h
  | j + 1, hj => by
    have ih := FmR.pzs hN hN1 hsp h j (by omega)
    have q := ih.row (t := 43 + (3 + j)) (x := nr (fRow N (43 + (3 + j)) z0)) hN (by rw [fmP_l]; omega) (by omega) (Byt_flt ih.b44 rfl : Byt (flt _ 0 128 0)) (by rw [fRow_o (by omega)]; exact Eb_z.row)
    rw [show 43 + (3 + j) = 46 + j by omega] at q
    show FmR N B h0 (fmP N (3 + j) ++ [some (43 + (3 + j), nr (fRow N (43 + (3 + j)) z0))]) R0 (rPz (rPzs R j) (46 + j))
    rw [show 43 + (3 + j) = 46 + j by omega]
    exact q
theorem FmR.fmZ (hN : N ≤ 1024) (hN1 : 61 ≤ N) (hsp : hSp h0 + 100 < 2 ^ 31) (hr : RH N B h0 R) (hw : WkO N R) (h1 : rS R 1 = nI N) : FmR N B h0 (fmL N) R (fmZ R N) := by
  have a0 : FmR N B h0 [] R (setS R 0 0) := Or.inl ⟨rfl, hr.s (by decide), hw.fq (Fq.s (S := [0]) (T := []) (by decide)) (by decide) (by decide) (by decide) (by decide) (by decide), Fq.s (by decide)⟩
  have a1 := a0.row (t := 0) (x := nr z0) hN (by show _ + 0 + 1 < _; omega) (by omega) (Byt_flt a0.b44 rfl : Byt (flt _ 0 128 0)) (Eb_flt.row)
  have a2 := a1.se hN
  have a3 : FmR N B h0 (fmP N 18) R (fmF (rSett (rPz (setS R 0 0) 0)) N) := by
    unfold fmF
    by_cases z : rS (rSett (rPz (setS R 0 0) 0)) 11 = 0
    · rw [if_pos z]
      have q := FmR.ext a2 z ([some (1, mHd [] 0)] ++ (fmP N 18).drop 3)
      have e : ([] ++ [some (0, nr z0)] ++ [none]) ++ ([some (1, mHd [] 0)] ++ (fmP N 18).drop 3) = fmP N 18 := by
        have e0 : ∀ j, ∃ l, fmP N j = fmP N 0 ++ l := by
          intro j
          induction j with
          | zero => exact ⟨[], (List.append_nil _).symm⟩
          | succ j ih =>
            obtain ⟨l, hl⟩ := ih
            exact ⟨l ++ [some (43 + j, nr (fRow N (43 + j) z0))], by rw [← List.append_assoc, ← hl]; rfl⟩
        obtain ⟨l, hl⟩ := e0 18
        rw [hl]
        rfl
      rw [e] at q
      exact q
    · rw [if_neg z]
      exact ((a2.ph hN hN1 (by show _ + 2 + 1 < _; omega) z).fmC hN hN1 hsp).pzs hN hN1 hsp 15 (by decide)
  have a4 : FmR N B h0 (fmP N 18 ++ [none]) R (fmE1 (fmF (rSett (rPz (setS R 0 0) 0)) N)) := by
    unfold fmE1
    split
    · exact a3.ext (by assumption) _
    · exact a3.se hN
  have a5 : FmR N B h0 (fmP N 18 ++ [none] ++ [some (0, nr (hRow N z0))]) R (fmE2 (fmE1 (fmF (rSett (rPz (setS R 0 0) 0)) N))) := by
    unfold fmE2
    split
    · exact a4.ext (by assumption) _
    · rename_i z
      have e1 : rS (fmE1 (fmF (rSett (rPz (setS R 0 0) 0)) N)) 1 = nI N := by
        rcases a4 with ⟨b1, b2, b3, b4⟩ | ⟨b1, b2⟩
        · rw [b4.1 1 (by decide)]
          exact h1
        · exact absurd b2.1.1 z
      exact a4.row hN (by rw [List.length_append, fmP_l]; show _ + (3 + 18 + 1) + 1 < _; omega) (by omega) (stV_b (stV_b (stV_b (stV_b (Byt_flt a4.b44 rfl) _) _) _) _) (rHd_m e1)
  show FmR N B h0 (fmP N 18 ++ [none] ++ [some (0, nr (hRow N z0))] ++ [none]) R (fmE1 (fmE2 (fmE1 (fmF (rSett (rPz (setS R 0 0) 0)) N))))
  generalize fmE2 (fmE1 (fmF (rSett (rPz (setS R 0 0) 0)) N)) = X at a5 ⊢
  unfold fmE1
  split
  · exact a5.ext (by assumption) _
  · exact a5.se hN
end PZR9
