section GLS
/-- where the cells of the fixed order lie in the order of their making -/
def lpi (N B gr k : Nat) : Nat := if k < 94 then [0, 1, 1 + 10, 1 + 269, 1 + 270, 1 + 11, 1 + 271 + N, 1 + 268, 1 + 271 + N + 1, 1 + 271 + N + 2, 1 + 271 + N + 3 + B + 2, 1 + 271 + N + 3 + B, 1 + 271 + N + 3 + B + 1, 1 + 271 + N + 3 + B + 3, 1 + 271 + N + 3 + B + 4, 1 + 271 + N + 3 + B + 5, 1 + 271 + N + 3 + B + 6, 1 + 271 + N + 3 + B + 7, 1 + 271 + N + 3 + B + 9, 1 + 271 + N + 3 + B + 10 + (gr * 40), 1 + 271 + N + 3 + B + 10 + (gr * 40) + 2, 1 + 271 + N + 3 + B + 8, 1 + 271 + N + 3 + B + 10 + (gr * 40) + 1, 1 + 271 + N + 3 + B + 10 + (gr * 40) + 3, 1 + 271 + N + 3 + B + 10 + (gr * 40) + 4, 1 + 271 + N + 3 + B + 10 + (gr * 40) + 5, 1 + 271 + N + 3 + B + 10 + (gr * 40) + 8, 1 + 271 + N + 3 + B + 10 + (gr * 40) + 9 + N, 1 + 271 + N + 3 + B + 10 + (gr * 40) + 9 + N + 1, 1 + 271 + N + 3 + B + 10 + (gr * 40) + 9 + N + 2, 1 + 271 + N + 3 + B + 10 + (gr * 40) + 6, 1 + 271 + N + 3 + B + 10 + (gr * 40) + 7, 1 + 271 + N + 3 + B + 10 + (gr * 40) + 9 + N + 3, 1 + 271 + N + 3 + B + 10 + (gr * 40) + 9 + N + 4, 1 + 271 + N + 3 + B + 10 + (gr * 40) + 9 + N + 5, 1 + 271 + N + 3 + B + 10 + (gr * 40) + 9 + N + 6, 1 + 271 + N + 3 + B + 10 + (gr * 40) + 9 + N + 7, 1 + 271 + N + 3 + B + 10 + (gr * 40) + 9 + N + 8, 1 + 271 + N + 3 + B + 10 + (gr * 40) + 9 + N + 9, 1 + 271 + N + 3 + B + 10 + (gr * 40) + 9 + N + 10, 1 + 271 + N + 3 + B + 10 + (gr * 40) + 9 + N + 11, 1 + 271 + N + 3 + B + 10 + (gr * 40) + 9 + N + 12, 1 + 271 + N + 3 + B + 10 + (gr * 40) + 9 + N + 13, 1 + 271 + N + 3 + B + 10 + (gr * 40) + 9 + N + 14, 1 + 271 + N + 3 + B + 10 + (gr * 40) + 9 + N + 15, 1 + 271 + N + 3 + B + 10 + (gr * 40) + 9 + N + 17, 1 + 271 + N + 3 + B + 10 + (gr * 40) + 9 + N + 16, 1 + 1, 1 + 2, 1 + 3, 1 + 4, 1 + 5, 1 + 6, 1 + 7, 1 + 8, 1 + 9, 1 + 271 + N + 3 + B + 10 + (gr * 40) + 9 + N + 18, 1 + 271 + N + 3 + B + 10 + (gr * 40) + 9 + N + 18 + 1, 1 + 271 + N + 3 + B + 10 + (gr * 40) + 9 + N + 18 + 1 + 1, 1 + 271 + N + 3 + B + 10 + (gr * 40) + 9 + N + 18 + 1 + 2, 1 + 271 + N + 3 + B + 10 + (gr * 40) + 9 + N + 18 + 1 + 3, 1 + 271 + N + 3 + B + 10 + (gr * 40) + 9 + N + 18 + 1 + 4, 1 + 271 + N + 3 + B + 10 + (gr * 40) + 9 + N + 18 + 1 + 5, 1 + 271 + N + 3 + B + 10 + (gr * 40) + 9 + N + 18 + 1 + 6, 1 + 271 + N + 3 + B + 10 + (gr * 40) + 9 + N + 18 + 1 + 7, 1 + 271 + N + 3 + B + 10 + (gr * 40) + 9 + N + 18 + 1 + 8, 1 + 271 + N + 3 + B + 10 + (gr * 40) + 9 + N + 18 + 1 + 9, 1 + 271 + N + 3 + B + 10 + (gr * 40) + 9 + N + 18 + 1 + 10, 1 + 271 + N + 3 + B + 10 + (gr * 40) + 9 + N + 18 + 1 + 11, 1 + 271 + N + 3 + B + 10 + (gr * 40) + 9 + N + 18 + 1 + 12, 1 + 271 + N + 3 + B + 10 + (gr * 40) + 9 + N + 18 + 1 + 13, 1 + 271 + N + 3 + B + 10 + (gr * 40) + 9 + N + 18 + 1 + 14, 1 + 271 + N + 3 + B + 10 + (gr * 40) + 9 + N + 18 + 1 + 15, 1 + 271 + N + 3 + B + 10 + (gr * 40) + 9 + N + 18 + 1 + 16, 1 + 271 + N + 3 + B + 10 + (gr * 40) + 9 + N + 18 + 1 + 17, 1 + 271 + N + 3 + B + 10 + (gr * 40) + 9 + N + 18 + 1 + 18, 1 + 271 + N + 3 + B + 10 + (gr * 40) + 9 + N + 18 + 1 + 19, 1 + 271 + N + 3 + B + 10 + (gr * 40) + 9 + N + 18 + 1 + 20, 1 + 271 + N + 3 + B + 10 + (gr * 40) + 9 + N + 18 + 1 + 21, 1 + 271 + N + 3 + B + 10 + (gr * 40) + 9 + N + 18 + 1 + 22, 1 + 271 + N + 3 + B + 10 + (gr * 40) + 9 + N + 18 + 1 + 23, 1 + 271 + N + 3 + B + 10 + (gr * 40) + 9 + N + 18 + 1 + 24, 1 + 271 + N + 3 + B + 10 + (gr * 40) + 9 + N + 18 + 1 + 25, 1 + 271 + N + 3 + B + 10 + (gr * 40) + 9 + N + 18 + 1 + 26, 1 + 271 + N + 3 + B + 10 + (gr * 40) + 9 + N + 18 + 1 + 27, 1 + 271 + N + 3 + B + 10 + (gr * 40) + 9 + N + 18 + 1 + 28, 1 + 271 + N + 3 + B + 10 + (gr * 40) + 9 + N + 18 + 1 + 29, 1 + 271 + N + 3 + B + 10 + (gr * 40) + 9 + N + 18 + 1 + 30, 1 + 271 + N + 3 + B + 10 + (gr * 40) + 9 + N + 18 + 1 + 31, 1 + 271 + N + 3 + B + 10 + (gr * 40) + 9 + N + 18 + 1 + 32, 1 + 271 + N + 3 + B + 10 + (gr * 40) + 9 + N + 18 + 1 + 33, 1 + 271 + N + 3 + B + 10 + (gr * 40) + 9 + N + 18 + 1 + 34, 1 + 271 + N + 3 + B + 10 + (gr * 40) + 9 + N + 18 + 1 + 35, 1 + 271 + N + 3 + B + 10 + (gr * 40) + 9 + N + 18 + 37].getD k 0 else if k < 350 then 1 + 12 + (k - 94) else if k < 350 + N then 1 + 271 + (k - 350) else if k < 350 + N + N then 1 + 271 + N + 3 + B + 10 + (gr * 40) + 9 + (k - (350 + N)) else if k < 350 + 2 * N + B then 1 + 271 + N + 3 + (k - (350 + 2 * N)) else 1 + 271 + N + 3 + B + 10 + (k - (350 + 2 * N + B))
def lrho (N B gr q c : Nat) : Nat := if c < 13 then [0, 1, 47, 48, 49, 50, 51, 52, 53, 54, 55, 2, 5].getD c 0 else if c < 269 then 94 + (c - 13) else if c < 272 then [7, 3, 4].getD (c - 269) 0 else if c < 272 + N then 350 + (c - 272) else if c < 275 + N then [6, 8, 9].getD (c - (272 + N)) 0 else if c < 275 + N + B then 350 + 2 * N + (c - (275 + N)) else if c < 285 + N + B then [11, 12, 10, 13, 14, 15, 16, 17, 21, 18].getD (c - (275 + N + B)) 0 else if c < q then 350 + 2 * N + B + (c - (285 + N + B)) else if c < q + 9 then [19, 22, 20, 23, 24, 25, 30, 31, 26].getD (c - q) 0 else if c < q + 9 + N then 350 + N + (c - (q + 9)) else [27, 28, 29, 32, 33, 34, 35, 36, 37, 38, 39, 40, 41, 42, 43, 44, 46, 45, 56, 57, 58, 59, 60, 61, 62, 63, 64, 65, 66, 67, 68, 69, 70, 71, 72, 73, 74, 75, 76, 77, 78, 79, 80, 81, 82, 83, 84, 85, 86, 87, 88, 89, 90, 91, 92, 93].getD (c - (q + 9 + N)) 0
variable {N B gr q : Nat}
theorem lrp_0 (hq : q = 285 + N + B + gr * 40) (hg : 1 ≤ gr) (hN : 1 ≤ N) : lrho N B gr q (0) = 0 := by
  unfold lrho
  rw [if_pos (by omega)]
  rfl
theorem lrp_1 (hq : q = 285 + N + B + gr * 40) (hg : 1 ≤ gr) (hN : 1 ≤ N) : lrho N B gr q (1) = 1 := by
  unfold lrho
  rw [if_pos (by omega)]
  rfl
theorem lrp_2 (hq : q = 285 + N + B + gr * 40) (hg : 1 ≤ gr) (hN : 1 ≤ N) : lrho N B gr q (1 + 10) = 2 := by
  unfold lrho
  rw [if_pos (by omega)]
  rfl
theorem lrp_3 (hq : q = 285 + N + B + gr * 40) (hg : 1 ≤ gr) (hN : 1 ≤ N) : lrho N B gr q (1 + 269) = 3 := by
  unfold lrho
  rw [if_neg (by omega), if_neg (by omega), if_pos (by omega)]
  rw [show 1 + 269 - 269 = 1 by omega]
  rfl
theorem lrp_4 (hq : q = 285 + N + B + gr * 40) (hg : 1 ≤ gr) (hN : 1 ≤ N) : lrho N B gr q (1 + 270) = 4 := by
  unfold lrho
  rw [if_neg (by omega), if_neg (by omega), if_pos (by omega)]
  rw [show 1 + 270 - 269 = 2 by omega]
  rfl
theorem lrp_5 (hq : q = 285 + N + B + gr * 40) (hg : 1 ≤ gr) (hN : 1 ≤ N) : lrho N B gr q (1 + 11) = 5 := by
  unfold lrho
  rw [if_pos (by omega)]
  rfl
theorem lrp_6 (hq : q = 285 + N + B + gr * 40) (hg : 1 ≤ gr) (hN : 1 ≤ N) : lrho N B gr q (1 + 271 + N) = 6 := by
  unfold lrho
  rw [if_neg (by omega), if_neg (by omega), if_neg (by omega), if_neg (by omega), if_pos (by omega)]
  rw [show 1 + 271 + N - (272 + N) = 0 by omega]
  rfl
theorem lrp_7 (hq : q = 285 + N + B + gr * 40) (hg : 1 ≤ gr) (hN : 1 ≤ N) : lrho N B gr q (1 + 268) = 7 := by
  unfold lrho
  rw [if_neg (by omega), if_neg (by omega), if_pos (by omega)]
  rw [show 1 + 268 - 269 = 0 by omega]
  rfl
theorem lrp_8 (hq : q = 285 + N + B + gr * 40) (hg : 1 ≤ gr) (hN : 1 ≤ N) : lrho N B gr q (1 + 271 + N + 1) = 8 := by
  unfold lrho
  rw [if_neg (by omega), if_neg (by omega), if_neg (by omega), if_neg (by omega), if_pos (by omega)]
  rw [show 1 + 271 + N + 1 - (272 + N) = 1 by omega]
  rfl
theorem lrp_9 (hq : q = 285 + N + B + gr * 40) (hg : 1 ≤ gr) (hN : 1 ≤ N) : lrho N B gr q (1 + 271 + N + 2) = 9 := by
  unfold lrho
  rw [if_neg (by omega), if_neg (by omega), if_neg (by omega), if_neg (by omega), if_pos (by omega)]
  rw [show 1 + 271 + N + 2 - (272 + N) = 2 by omega]
  rfl
theorem lrp_10 (hq : q = 285 + N + B + gr * 40) (hg : 1 ≤ gr) (hN : 1 ≤ N) : lrho N B gr q (1 + 271 + N + 3 + B + 2) = 10 := by
  unfold lrho
  rw [if_neg (by omega), if_neg (by omega), if_neg (by omega), if_neg (by omega), if_neg (by omega), if_neg (by omega), if_pos (by omega)]
  rw [show 1 + 271 + N + 3 + B + 2 - (275 + N + B) = 2 by omega]
  rfl
theorem lrp_11 (hq : q = 285 + N + B + gr * 40) (hg : 1 ≤ gr) (hN : 1 ≤ N) : lrho N B gr q (1 + 271 + N + 3 + B) = 11 := by
  unfold lrho
  rw [if_neg (by omega), if_neg (by omega), if_neg (by omega), if_neg (by omega), if_neg (by omega), if_neg (by omega), if_pos (by omega)]
  rw [show 1 + 271 + N + 3 + B - (275 + N + B) = 0 by omega]
  rfl
theorem lrp_12 (hq : q = 285 + N + B + gr * 40) (hg : 1 ≤ gr) (hN : 1 ≤ N) : lrho N B gr q (1 + 271 + N + 3 + B + 1) = 12 := by
  unfold lrho
  rw [if_neg (by omega), if_neg (by omega), if_neg (by omega), if_neg (by omega), if_neg (by omega), if_neg (by omega), if_pos (by omega)]
  rw [show 1 + 271 + N + 3 + B + 1 - (275 + N + B) = 1 by omega]
  rfl
theorem lrp_13 (hq : q = 285 + N + B + gr * 40) (hg : 1 ≤ gr) (hN : 1 ≤ N) : lrho N B gr q (1 + 271 + N + 3 + B + 3) = 13 := by
  unfold lrho
  rw [if_neg (by omega), if_neg (by omega), if_neg (by omega), if_neg (by omega), if_neg (by omega), if_neg (by omega), if_pos (by omega)]
  rw [show 1 + 271 + N + 3 + B + 3 - (275 + N + B) = 3 by omega]
  rfl
theorem lrp_14 (hq : q = 285 + N + B + gr * 40) (hg : 1 ≤ gr) (hN : 1 ≤ N) : lrho N B gr q (1 + 271 + N + 3 + B + 4) = 14 := by
  unfold lrho
  rw [if_neg (by omega), if_neg (by omega), if_neg (by omega), if_neg (by omega), if_neg (by omega), if_neg (by omega), if_pos (by omega)]
  rw [show 1 + 271 + N + 3 + B + 4 - (275 + N + B) = 4 by omega]
  rfl
theorem lrp_15 (hq : q = 285 + N + B + gr * 40) (hg : 1 ≤ gr) (hN : 1 ≤ N) : lrho N B gr q (1 + 271 + N + 3 + B + 5) = 15 := by
  unfold lrho
  rw [if_neg (by omega), if_neg (by omega), if_neg (by omega), if_neg (by omega), if_neg (by omega), if_neg (by omega), if_pos (by omega)]
  rw [show 1 + 271 + N + 3 + B + 5 - (275 + N + B) = 5 by omega]
  rfl
theorem lrp_16 (hq : q = 285 + N + B + gr * 40) (hg : 1 ≤ gr) (hN : 1 ≤ N) : lrho N B gr q (1 + 271 + N + 3 + B + 6) = 16 := by
  unfold lrho
  rw [if_neg (by omega), if_neg (by omega), if_neg (by omega), if_neg (by omega), if_neg (by omega), if_neg (by omega), if_pos (by omega)]
  rw [show 1 + 271 + N + 3 + B + 6 - (275 + N + B) = 6 by omega]
  rfl
theorem lrp_17 (hq : q = 285 + N + B + gr * 40) (hg : 1 ≤ gr) (hN : 1 ≤ N) : lrho N B gr q (1 + 271 + N + 3 + B + 7) = 17 := by
  unfold lrho
  rw [if_neg (by omega), if_neg (by omega), if_neg (by omega), if_neg (by omega), if_neg (by omega), if_neg (by omega), if_pos (by omega)]
  rw [show 1 + 271 + N + 3 + B + 7 - (275 + N + B) = 7 by omega]
  rfl
theorem lrp_18 (hq : q = 285 + N + B + gr * 40) (hg : 1 ≤ gr) (hN : 1 ≤ N) : lrho N B gr q (1 + 271 + N + 3 + B + 9) = 18 := by
  unfold lrho
  rw [if_neg (by omega), if_neg (by omega), if_neg (by omega), if_neg (by omega), if_neg (by omega), if_neg (by omega), if_pos (by omega)]
  rw [show 1 + 271 + N + 3 + B + 9 - (275 + N + B) = 9 by omega]
  rfl
theorem lrp_19 (hq : q = 285 + N + B + gr * 40) (hg : 1 ≤ gr) (hN : 1 ≤ N) : lrho N B gr q (1 + 271 + N + 3 + B + 10 + (gr * 40)) = 19 := by
  unfold lrho
  rw [if_neg (by omega), if_neg (by omega), if_neg (by omega), if_neg (by omega), if_neg (by omega), if_neg (by omega), if_neg (by omega), if_neg (by omega), if_pos (by omega)]
  rw [show 1 + 271 + N + 3 + B + 10 + (gr * 40) - q = 0 by omega]
  rfl
theorem lrp_20 (hq : q = 285 + N + B + gr * 40) (hg : 1 ≤ gr) (hN : 1 ≤ N) : lrho N B gr q (1 + 271 + N + 3 + B + 10 + (gr * 40) + 2) = 20 := by
  unfold lrho
  rw [if_neg (by omega), if_neg (by omega), if_neg (by omega), if_neg (by omega), if_neg (by omega), if_neg (by omega), if_neg (by omega), if_neg (by omega), if_pos (by omega)]
  rw [show 1 + 271 + N + 3 + B + 10 + (gr * 40) + 2 - q = 2 by omega]
  rfl
theorem lrp_21 (hq : q = 285 + N + B + gr * 40) (hg : 1 ≤ gr) (hN : 1 ≤ N) : lrho N B gr q (1 + 271 + N + 3 + B + 8) = 21 := by
  unfold lrho
  rw [if_neg (by omega), if_neg (by omega), if_neg (by omega), if_neg (by omega), if_neg (by omega), if_neg (by omega), if_pos (by omega)]
  rw [show 1 + 271 + N + 3 + B + 8 - (275 + N + B) = 8 by omega]
  rfl
theorem lrp_22 (hq : q = 285 + N + B + gr * 40) (hg : 1 ≤ gr) (hN : 1 ≤ N) : lrho N B gr q (1 + 271 + N + 3 + B + 10 + (gr * 40) + 1) = 22 := by
  unfold lrho
  rw [if_neg (by omega), if_neg (by omega), if_neg (by omega), if_neg (by omega), if_neg (by omega), if_neg (by omega), if_neg (by omega), if_neg (by omega), if_pos (by omega)]
  rw [show 1 + 271 + N + 3 + B + 10 + (gr * 40) + 1 - q = 1 by omega]
  rfl
theorem lrp_23 (hq : q = 285 + N + B + gr * 40) (hg : 1 ≤ gr) (hN : 1 ≤ N) : lrho N B gr q (1 + 271 + N + 3 + B + 10 + (gr * 40) + 3) = 23 := by
  unfold lrho
  rw [if_neg (by omega), if_neg (by omega), if_neg (by omega), if_neg (by omega), if_neg (by omega), if_neg (by omega), if_neg (by omega), if_neg (by omega), if_pos (by omega)]
  rw [show 1 + 271 + N + 3 + B + 10 + (gr * 40) + 3 - q = 3 by omega]
  rfl
theorem lrp_24 (hq : q = 285 + N + B + gr * 40) (hg : 1 ≤ gr) (hN : 1 ≤ N) : lrho N B gr q (1 + 271 + N + 3 + B + 10 + (gr * 40) + 4) = 24 := by
  unfold lrho
  rw [if_neg (by omega), if_neg (by omega), if_neg (by omega), if_neg (by omega), if_neg (by omega), if_neg (by omega), if_neg (by omega), if_neg (by omega), if_pos (by omega)]
  rw [show 1 + 271 + N + 3 + B + 10 + (gr * 40) + 4 - q = 4 by omega]
  rfl
theorem lrp_25 (hq : q = 285 + N + B + gr * 40) (hg : 1 ≤ gr) (hN : 1 ≤ N) : lrho N B gr q (1 + 271 + N + 3 + B + 10 + (gr * 40) + 5) = 25 := by
  unfold lrho
  rw [if_neg (by omega), if_neg (by omega), if_neg (by omega), if_neg (by omega), if_neg (by omega), if_neg (by omega), if_neg (by omega), if_neg (by omega), if_pos (by omega)]
  rw [show 1 + 271 + N + 3 + B + 10 + (gr * 40) + 5 - q = 5 by omega]
  rfl
theorem lrp_26 (hq : q = 285 + N + B + gr * 40) (hg : 1 ≤ gr) (hN : 1 ≤ N) : lrho N B gr q (1 + 271 + N + 3 + B + 10 + (gr * 40) + 8) = 26 := by
  unfold lrho
  rw [if_neg (by omega), if_neg (by omega), if_neg (by omega), if_neg (by omega), if_neg (by omega), if_neg (by omega), if_neg (by omega), if_neg (by omega), if_pos (by omega)]
  rw [show 1 + 271 + N + 3 + B + 10 + (gr * 40) + 8 - q = 8 by omega]
  rfl
theorem lrp_27 (hq : q = 285 + N + B + gr * 40) (hg : 1 ≤ gr) (hN : 1 ≤ N) : lrho N B gr q (1 + 271 + N + 3 + B + 10 + (gr * 40) + 9 + N) = 27 := by
  unfold lrho
  rw [if_neg (by omega), if_neg (by omega), if_neg (by omega), if_neg (by omega), if_neg (by omega), if_neg (by omega), if_neg (by omega), if_neg (by omega), if_neg (by omega), if_neg (by omega)]
  rw [show 1 + 271 + N + 3 + B + 10 + (gr * 40) + 9 + N - (q + 9 + N) = 0 by omega]
  rfl
theorem lrp_28 (hq : q = 285 + N + B + gr * 40) (hg : 1 ≤ gr) (hN : 1 ≤ N) : lrho N B gr q (1 + 271 + N + 3 + B + 10 + (gr * 40) + 9 + N + 1) = 28 := by
  unfold lrho
  rw [if_neg (by omega), if_neg (by omega), if_neg (by omega), if_neg (by omega), if_neg (by omega), if_neg (by omega), if_neg (by omega), if_neg (by omega), if_neg (by omega), if_neg (by omega)]
  rw [show 1 + 271 + N + 3 + B + 10 + (gr * 40) + 9 + N + 1 - (q + 9 + N) = 1 by omega]
  rfl
theorem lrp_29 (hq : q = 285 + N + B + gr * 40) (hg : 1 ≤ gr) (hN : 1 ≤ N) : lrho N B gr q (1 + 271 + N + 3 + B + 10 + (gr * 40) + 9 + N + 2) = 29 := by
  unfold lrho
  rw [if_neg (by omega), if_neg (by omega), if_neg (by omega), if_neg (by omega), if_neg (by omega), if_neg (by omega), if_neg (by omega), if_neg (by omega), if_neg (by omega), if_neg (by omega)]
  rw [show 1 + 271 + N + 3 + B + 10 + (gr * 40) + 9 + N + 2 - (q + 9 + N) = 2 by omega]
  rfl
theorem lrp_30 (hq : q = 285 + N + B + gr * 40) (hg : 1 ≤ gr) (hN : 1 ≤ N) : lrho N B gr q (1 + 271 + N + 3 + B + 10 + (gr * 40) + 6) = 30 := by
  unfold lrho
  rw [if_neg (by omega), if_neg (by omega), if_neg (by omega), if_neg (by omega), if_neg (by omega), if_neg (by omega), if_neg (by omega), if_neg (by omega), if_pos (by omega)]
  rw [show 1 + 271 + N + 3 + B + 10 + (gr * 40) + 6 - q = 6 by omega]
  rfl
theorem lrp_31 (hq : q = 285 + N + B + gr * 40) (hg : 1 ≤ gr) (hN : 1 ≤ N) : lrho N B gr q (1 + 271 + N + 3 + B + 10 + (gr * 40) + 7) = 31 := by
  unfold lrho
  rw [if_neg (by omega), if_neg (by omega), if_neg (by omega), if_neg (by omega), if_neg (by omega), if_neg (by omega), if_neg (by omega), if_neg (by omega), if_pos (by omega)]
  rw [show 1 + 271 + N + 3 + B + 10 + (gr * 40) + 7 - q = 7 by omega]
  rfl
theorem lrp_32 (hq : q = 285 + N + B + gr * 40) (hg : 1 ≤ gr) (hN : 1 ≤ N) : lrho N B gr q (1 + 271 + N + 3 + B + 10 + (gr * 40) + 9 + N + 3) = 32 := by
  unfold lrho
  rw [if_neg (by omega), if_neg (by omega), if_neg (by omega), if_neg (by omega), if_neg (by omega), if_neg (by omega), if_neg (by omega), if_neg (by omega), if_neg (by omega), if_neg (by omega)]
  rw [show 1 + 271 + N + 3 + B + 10 + (gr * 40) + 9 + N + 3 - (q + 9 + N) = 3 by omega]
  rfl
theorem lrp_33 (hq : q = 285 + N + B + gr * 40) (hg : 1 ≤ gr) (hN : 1 ≤ N) : lrho N B gr q (1 + 271 + N + 3 + B + 10 + (gr * 40) + 9 + N + 4) = 33 := by
  unfold lrho
  rw [if_neg (by omega), if_neg (by omega), if_neg (by omega), if_neg (by omega), if_neg (by omega), if_neg (by omega), if_neg (by omega), if_neg (by omega), if_neg (by omega), if_neg (by omega)]
  rw [show 1 + 271 + N + 3 + B + 10 + (gr * 40) + 9 + N + 4 - (q + 9 + N) = 4 by omega]
  rfl
theorem lrp_34 (hq : q = 285 + N + B + gr * 40) (hg : 1 ≤ gr) (hN : 1 ≤ N) : lrho N B gr q (1 + 271 + N + 3 + B + 10 + (gr * 40) + 9 + N + 5) = 34 := by
  unfold lrho
  rw [if_neg (by omega), if_neg (by omega), if_neg (by omega), if_neg (by omega), if_neg (by omega), if_neg (by omega), if_neg (by omega), if_neg (by omega), if_neg (by omega), if_neg (by omega)]
  rw [show 1 + 271 + N + 3 + B + 10 + (gr * 40) + 9 + N + 5 - (q + 9 + N) = 5 by omega]
  rfl
theorem lrp_35 (hq : q = 285 + N + B + gr * 40) (hg : 1 ≤ gr) (hN : 1 ≤ N) : lrho N B gr q (1 + 271 + N + 3 + B + 10 + (gr * 40) + 9 + N + 6) = 35 := by
  unfold lrho
  rw [if_neg (by omega), if_neg (by omega), if_neg (by omega), if_neg (by omega), if_neg (by omega), if_neg (by omega), if_neg (by omega), if_neg (by omega), if_neg (by omega), if_neg (by omega)]
  rw [show 1 + 271 + N + 3 + B + 10 + (gr * 40) + 9 + N + 6 - (q + 9 + N) = 6 by omega]
  rfl
theorem lrp_36 (hq : q = 285 + N + B + gr * 40) (hg : 1 ≤ gr) (hN : 1 ≤ N) : lrho N B gr q (1 + 271 + N + 3 + B + 10 + (gr * 40) + 9 + N + 7) = 36 := by
  unfold lrho
  rw [if_neg (by omega), if_neg (by omega), if_neg (by omega), if_neg (by omega), if_neg (by omega), if_neg (by omega), if_neg (by omega), if_neg (by omega), if_neg (by omega), if_neg (by omega)]
  rw [show 1 + 271 + N + 3 + B + 10 + (gr * 40) + 9 + N + 7 - (q + 9 + N) = 7 by omega]
  rfl
theorem lrp_37 (hq : q = 285 + N + B + gr * 40) (hg : 1 ≤ gr) (hN : 1 ≤ N) : lrho N B gr q (1 + 271 + N + 3 + B + 10 + (gr * 40) + 9 + N + 8) = 37 := by
  unfold lrho
  rw [if_neg (by omega), if_neg (by omega), if_neg (by omega), if_neg (by omega), if_neg (by omega), if_neg (by omega), if_neg (by omega), if_neg (by omega), if_neg (by omega), if_neg (by omega)]
  rw [show 1 + 271 + N + 3 + B + 10 + (gr * 40) + 9 + N + 8 - (q + 9 + N) = 8 by omega]
  rfl
theorem lrp_38 (hq : q = 285 + N + B + gr * 40) (hg : 1 ≤ gr) (hN : 1 ≤ N) : lrho N B gr q (1 + 271 + N + 3 + B + 10 + (gr * 40) + 9 + N + 9) = 38 := by
  unfold lrho
  rw [if_neg (by omega), if_neg (by omega), if_neg (by omega), if_neg (by omega), if_neg (by omega), if_neg (by omega), if_neg (by omega), if_neg (by omega), if_neg (by omega), if_neg (by omega)]
  rw [show 1 + 271 + N + 3 + B + 10 + (gr * 40) + 9 + N + 9 - (q + 9 + N) = 9 by omega]
  rfl
theorem lrp_39 (hq : q = 285 + N + B + gr * 40) (hg : 1 ≤ gr) (hN : 1 ≤ N) : lrho N B gr q (1 + 271 + N + 3 + B + 10 + (gr * 40) + 9 + N + 10) = 39 := by
  unfold lrho
  rw [if_neg (by omega), if_neg (by omega), if_neg (by omega), if_neg (by omega), if_neg (by omega), if_neg (by omega), if_neg (by omega), if_neg (by omega), if_neg (by omega), if_neg (by omega)]
  rw [show 1 + 271 + N + 3 + B + 10 + (gr * 40) + 9 + N + 10 - (q + 9 + N) = 10 by omega]
  rfl
theorem lrp_40 (hq : q = 285 + N + B + gr * 40) (hg : 1 ≤ gr) (hN : 1 ≤ N) : lrho N B gr q (1 + 271 + N + 3 + B + 10 + (gr * 40) + 9 + N + 11) = 40 := by
  unfold lrho
  rw [if_neg (by omega), if_neg (by omega), if_neg (by omega), if_neg (by omega), if_neg (by omega), if_neg (by omega), if_neg (by omega), if_neg (by omega), if_neg (by omega), if_neg (by omega)]
  rw [show 1 + 271 + N + 3 + B + 10 + (gr * 40) + 9 + N + 11 - (q + 9 + N) = 11 by omega]
  rfl
theorem lrp_41 (hq : q = 285 + N + B + gr * 40) (hg : 1 ≤ gr) (hN : 1 ≤ N) : lrho N B gr q (1 + 271 + N + 3 + B + 10 + (gr * 40) + 9 + N + 12) = 41 := by
  unfold lrho
  rw [if_neg (by omega), if_neg (by omega), if_neg (by omega), if_neg (by omega), if_neg (by omega), if_neg (by omega), if_neg (by omega), if_neg (by omega), if_neg (by omega), if_neg (by omega)]
  rw [show 1 + 271 + N + 3 + B + 10 + (gr * 40) + 9 + N + 12 - (q + 9 + N) = 12 by omega]
  rfl
theorem lrp_42 (hq : q = 285 + N + B + gr * 40) (hg : 1 ≤ gr) (hN : 1 ≤ N) : lrho N B gr q (1 + 271 + N + 3 + B + 10 + (gr * 40) + 9 + N + 13) = 42 := by
  unfold lrho
  rw [if_neg (by omega), if_neg (by omega), if_neg (by omega), if_neg (by omega), if_neg (by omega), if_neg (by omega), if_neg (by omega), if_neg (by omega), if_neg (by omega), if_neg (by omega)]
  rw [show 1 + 271 + N + 3 + B + 10 + (gr * 40) + 9 + N + 13 - (q + 9 + N) = 13 by omega]
  rfl
theorem lrp_43 (hq : q = 285 + N + B + gr * 40) (hg : 1 ≤ gr) (hN : 1 ≤ N) : lrho N B gr q (1 + 271 + N + 3 + B + 10 + (gr * 40) + 9 + N + 14) = 43 := by
  unfold lrho
  rw [if_neg (by omega), if_neg (by omega), if_neg (by omega), if_neg (by omega), if_neg (by omega), if_neg (by omega), if_neg (by omega), if_neg (by omega), if_neg (by omega), if_neg (by omega)]
  rw [show 1 + 271 + N + 3 + B + 10 + (gr * 40) + 9 + N + 14 - (q + 9 + N) = 14 by omega]
  rfl
theorem lrp_44 (hq : q = 285 + N + B + gr * 40) (hg : 1 ≤ gr) (hN : 1 ≤ N) : lrho N B gr q (1 + 271 + N + 3 + B + 10 + (gr * 40) + 9 + N + 15) = 44 := by
  unfold lrho
  rw [if_neg (by omega), if_neg (by omega), if_neg (by omega), if_neg (by omega), if_neg (by omega), if_neg (by omega), if_neg (by omega), if_neg (by omega), if_neg (by omega), if_neg (by omega)]
  rw [show 1 + 271 + N + 3 + B + 10 + (gr * 40) + 9 + N + 15 - (q + 9 + N) = 15 by omega]
  rfl
theorem lrp_45 (hq : q = 285 + N + B + gr * 40) (hg : 1 ≤ gr) (hN : 1 ≤ N) : lrho N B gr q (1 + 271 + N + 3 + B + 10 + (gr * 40) + 9 + N + 17) = 45 := by
  unfold lrho
  rw [if_neg (by omega), if_neg (by omega), if_neg (by omega), if_neg (by omega), if_neg (by omega), if_neg (by omega), if_neg (by omega), if_neg (by omega), if_neg (by omega), if_neg (by omega)]
  rw [show 1 + 271 + N + 3 + B + 10 + (gr * 40) + 9 + N + 17 - (q + 9 + N) = 17 by omega]
  rfl
theorem lrp_46 (hq : q = 285 + N + B + gr * 40) (hg : 1 ≤ gr) (hN : 1 ≤ N) : lrho N B gr q (1 + 271 + N + 3 + B + 10 + (gr * 40) + 9 + N + 16) = 46 := by
  unfold lrho
  rw [if_neg (by omega), if_neg (by omega), if_neg (by omega), if_neg (by omega), if_neg (by omega), if_neg (by omega), if_neg (by omega), if_neg (by omega), if_neg (by omega), if_neg (by omega)]
  rw [show 1 + 271 + N + 3 + B + 10 + (gr * 40) + 9 + N + 16 - (q + 9 + N) = 16 by omega]
  rfl
theorem lrp_47 (hq : q = 285 + N + B + gr * 40) (hg : 1 ≤ gr) (hN : 1 ≤ N) : lrho N B gr q (1 + 1) = 47 := by
  unfold lrho
  rw [if_pos (by omega)]
  rfl
theorem lrp_48 (hq : q = 285 + N + B + gr * 40) (hg : 1 ≤ gr) (hN : 1 ≤ N) : lrho N B gr q (1 + 2) = 48 := by
  unfold lrho
  rw [if_pos (by omega)]
  rfl
theorem lrp_49 (hq : q = 285 + N + B + gr * 40) (hg : 1 ≤ gr) (hN : 1 ≤ N) : lrho N B gr q (1 + 3) = 49 := by
  unfold lrho
  rw [if_pos (by omega)]
  rfl
theorem lrp_50 (hq : q = 285 + N + B + gr * 40) (hg : 1 ≤ gr) (hN : 1 ≤ N) : lrho N B gr q (1 + 4) = 50 := by
  unfold lrho
  rw [if_pos (by omega)]
  rfl
theorem lrp_51 (hq : q = 285 + N + B + gr * 40) (hg : 1 ≤ gr) (hN : 1 ≤ N) : lrho N B gr q (1 + 5) = 51 := by
  unfold lrho
  rw [if_pos (by omega)]
  rfl
theorem lrp_52 (hq : q = 285 + N + B + gr * 40) (hg : 1 ≤ gr) (hN : 1 ≤ N) : lrho N B gr q (1 + 6) = 52 := by
  unfold lrho
  rw [if_pos (by omega)]
  rfl
theorem lrp_53 (hq : q = 285 + N + B + gr * 40) (hg : 1 ≤ gr) (hN : 1 ≤ N) : lrho N B gr q (1 + 7) = 53 := by
  unfold lrho
  rw [if_pos (by omega)]
  rfl
theorem lrp_54 (hq : q = 285 + N + B + gr * 40) (hg : 1 ≤ gr) (hN : 1 ≤ N) : lrho N B gr q (1 + 8) = 54 := by
  unfold lrho
  rw [if_pos (by omega)]
  rfl
theorem lrp_55 (hq : q = 285 + N + B + gr * 40) (hg : 1 ≤ gr) (hN : 1 ≤ N) : lrho N B gr q (1 + 9) = 55 := by
  unfold lrho
  rw [if_pos (by omega)]
  rfl
theorem lrp_56 (hq : q = 285 + N + B + gr * 40) (hg : 1 ≤ gr) (hN : 1 ≤ N) : lrho N B gr q (1 + 271 + N + 3 + B + 10 + (gr * 40) + 9 + N + 18) = 56 := by
  unfold lrho
  rw [if_neg (by omega), if_neg (by omega), if_neg (by omega), if_neg (by omega), if_neg (by omega), if_neg (by omega), if_neg (by omega), if_neg (by omega), if_neg (by omega), if_neg (by omega)]
  rw [show 1 + 271 + N + 3 + B + 10 + (gr * 40) + 9 + N + 18 - (q + 9 + N) = 18 by omega]
  rfl
theorem lrp_57 (hq : q = 285 + N + B + gr * 40) (hg : 1 ≤ gr) (hN : 1 ≤ N) : lrho N B gr q (1 + 271 + N + 3 + B + 10 + (gr * 40) + 9 + N + 18 + 1) = 57 := by
  unfold lrho
  rw [if_neg (by omega), if_neg (by omega), if_neg (by omega), if_neg (by omega), if_neg (by omega), if_neg (by omega), if_neg (by omega), if_neg (by omega), if_neg (by omega), if_neg (by omega)]
  rw [show 1 + 271 + N + 3 + B + 10 + (gr * 40) + 9 + N + 18 + 1 - (q + 9 + N) = 19 by omega]
  rfl
theorem lrp_58 (hq : q = 285 + N + B + gr * 40) (hg : 1 ≤ gr) (hN : 1 ≤ N) : lrho N B gr q (1 + 271 + N + 3 + B + 10 + (gr * 40) + 9 + N + 18 + 1 + 1) = 58 := by
  unfold lrho
  rw [if_neg (by omega), if_neg (by omega), if_neg (by omega), if_neg (by omega), if_neg (by omega), if_neg (by omega), if_neg (by omega), if_neg (by omega), if_neg (by omega), if_neg (by omega)]
  rw [show 1 + 271 + N + 3 + B + 10 + (gr * 40) + 9 + N + 18 + 1 + 1 - (q + 9 + N) = 20 by omega]
  rfl
theorem lrp_59 (hq : q = 285 + N + B + gr * 40) (hg : 1 ≤ gr) (hN : 1 ≤ N) : lrho N B gr q (1 + 271 + N + 3 + B + 10 + (gr * 40) + 9 + N + 18 + 1 + 2) = 59 := by
  unfold lrho
  rw [if_neg (by omega), if_neg (by omega), if_neg (by omega), if_neg (by omega), if_neg (by omega), if_neg (by omega), if_neg (by omega), if_neg (by omega), if_neg (by omega), if_neg (by omega)]
  rw [show 1 + 271 + N + 3 + B + 10 + (gr * 40) + 9 + N + 18 + 1 + 2 - (q + 9 + N) = 21 by omega]
  rfl
theorem lrp_60 (hq : q = 285 + N + B + gr * 40) (hg : 1 ≤ gr) (hN : 1 ≤ N) : lrho N B gr q (1 + 271 + N + 3 + B + 10 + (gr * 40) + 9 + N + 18 + 1 + 3) = 60 := by
  unfold lrho
  rw [if_neg (by omega), if_neg (by omega), if_neg (by omega), if_neg (by omega), if_neg (by omega), if_neg (by omega), if_neg (by omega), if_neg (by omega), if_neg (by omega), if_neg (by omega)]
  rw [show 1 + 271 + N + 3 + B + 10 + (gr * 40) + 9 + N + 18 + 1 + 3 - (q + 9 + N) = 22 by omega]
  rfl
theorem lrp_61 (hq : q = 285 + N + B + gr * 40) (hg : 1 ≤ gr) (hN : 1 ≤ N) : lrho N B gr q (1 + 271 + N + 3 + B + 10 + (gr * 40) + 9 + N + 18 + 1 + 4) = 61 := by
  unfold lrho
  rw [if_neg (by omega), if_neg (by omega), if_neg (by omega), if_neg (by omega), if_neg (by omega), if_neg (by omega), if_neg (by omega), if_neg (by omega), if_neg (by omega), if_neg (by omega)]
  rw [show 1 + 271 + N + 3 + B + 10 + (gr * 40) + 9 + N + 18 + 1 + 4 - (q + 9 + N) = 23 by omega]
  rfl
theorem lrp_62 (hq : q = 285 + N + B + gr * 40) (hg : 1 ≤ gr) (hN : 1 ≤ N) : lrho N B gr q (1 + 271 + N + 3 + B + 10 + (gr * 40) + 9 + N + 18 + 1 + 5) = 62 := by
  unfold lrho
  rw [if_neg (by omega), if_neg (by omega), if_neg (by omega), if_neg (by omega), if_neg (by omega), if_neg (by omega), if_neg (by omega), if_neg (by omega), if_neg (by omega), if_neg (by omega)]
  rw [show 1 + 271 + N + 3 + B + 10 + (gr * 40) + 9 + N + 18 + 1 + 5 - (q + 9 + N) = 24 by omega]
  rfl
theorem lrp_63 (hq : q = 285 + N + B + gr * 40) (hg : 1 ≤ gr) (hN : 1 ≤ N) : lrho N B gr q (1 + 271 + N + 3 + B + 10 + (gr * 40) + 9 + N + 18 + 1 + 6) = 63 := by
  unfold lrho
  rw [if_neg (by omega), if_neg (by omega), if_neg (by omega), if_neg (by omega), if_neg (by omega), if_neg (by omega), if_neg (by omega), if_neg (by omega), if_neg (by omega), if_neg (by omega)]
  rw [show 1 + 271 + N + 3 + B + 10 + (gr * 40) + 9 + N + 18 + 1 + 6 - (q + 9 + N) = 25 by omega]
  rfl
theorem lrp_64 (hq : q = 285 + N + B + gr * 40) (hg : 1 ≤ gr) (hN : 1 ≤ N) : lrho N B gr q (1 + 271 + N + 3 + B + 10 + (gr * 40) + 9 + N + 18 + 1 + 7) = 64 := by
  unfold lrho
  rw [if_neg (by omega), if_neg (by omega), if_neg (by omega), if_neg (by omega), if_neg (by omega), if_neg (by omega), if_neg (by omega), if_neg (by omega), if_neg (by omega), if_neg (by omega)]
  rw [show 1 + 271 + N + 3 + B + 10 + (gr * 40) + 9 + N + 18 + 1 + 7 - (q + 9 + N) = 26 by omega]
  rfl
theorem lrp_65 (hq : q = 285 + N + B + gr * 40) (hg : 1 ≤ gr) (hN : 1 ≤ N) : lrho N B gr q (1 + 271 + N + 3 + B + 10 + (gr * 40) + 9 + N + 18 + 1 + 8) = 65 := by
  unfold lrho
  rw [if_neg (by omega), if_neg (by omega), if_neg (by omega), if_neg (by omega), if_neg (by omega), if_neg (by omega), if_neg (by omega), if_neg (by omega), if_neg (by omega), if_neg (by omega)]
  rw [show 1 + 271 + N + 3 + B + 10 + (gr * 40) + 9 + N + 18 + 1 + 8 - (q + 9 + N) = 27 by omega]
  rfl
theorem lrp_66 (hq : q = 285 + N + B + gr * 40) (hg : 1 ≤ gr) (hN : 1 ≤ N) : lrho N B gr q (1 + 271 + N + 3 + B + 10 + (gr * 40) + 9 + N + 18 + 1 + 9) = 66 := by
  unfold lrho
  rw [if_neg (by omega), if_neg (by omega), if_neg (by omega), if_neg (by omega), if_neg (by omega), if_neg (by omega), if_neg (by omega), if_neg (by omega), if_neg (by omega), if_neg (by omega)]
  rw [show 1 + 271 + N + 3 + B + 10 + (gr * 40) + 9 + N + 18 + 1 + 9 - (q + 9 + N) = 28 by omega]
  rfl
theorem lrp_67 (hq : q = 285 + N + B + gr * 40) (hg : 1 ≤ gr) (hN : 1 ≤ N) : lrho N B gr q (1 + 271 + N + 3 + B + 10 + (gr * 40) + 9 + N + 18 + 1 + 10) = 67 := by
  unfold lrho
  rw [if_neg (by omega), if_neg (by omega), if_neg (by omega), if_neg (by omega), if_neg (by omega), if_neg (by omega), if_neg (by omega), if_neg (by omega), if_neg (by omega), if_neg (by omega)]
  rw [show 1 + 271 + N + 3 + B + 10 + (gr * 40) + 9 + N + 18 + 1 + 10 - (q + 9 + N) = 29 by omega]
  rfl
theorem lrp_68 (hq : q = 285 + N + B + gr * 40) (hg : 1 ≤ gr) (hN : 1 ≤ N) : lrho N B gr q (1 + 271 + N + 3 + B + 10 + (gr * 40) + 9 + N + 18 + 1 + 11) = 68 := by
  unfold lrho
  rw [if_neg (by omega), if_neg (by omega), if_neg (by omega), if_neg (by omega), if_neg (by omega), if_neg (by omega), if_neg (by omega), if_neg (by omega), if_neg (by omega), if_neg (by omega)]
  rw [show 1 + 271 + N + 3 + B + 10 + (gr * 40) + 9 + N + 18 + 1 + 11 - (q + 9 + N) = 30 by omega]
  rfl
theorem lrp_69 (hq : q = 285 + N + B + gr * 40) (hg : 1 ≤ gr) (hN : 1 ≤ N) : lrho N B gr q (1 + 271 + N + 3 + B + 10 + (gr * 40) + 9 + N + 18 + 1 + 12) = 69 := by
  unfold lrho
  rw [if_neg (by omega), if_neg (by omega), if_neg (by omega), if_neg (by omega), if_neg (by omega), if_neg (by omega), if_neg (by omega), if_neg (by omega), if_neg (by omega), if_neg (by omega)]
  rw [show 1 + 271 + N + 3 + B + 10 + (gr * 40) + 9 + N + 18 + 1 + 12 - (q + 9 + N) = 31 by omega]
  rfl
theorem lrp_70 (hq : q = 285 + N + B + gr * 40) (hg : 1 ≤ gr) (hN : 1 ≤ N) : lrho N B gr q (1 + 271 + N + 3 + B + 10 + (gr * 40) + 9 + N + 18 + 1 + 13) = 70 := by
  unfold lrho
  rw [if_neg (by omega), if_neg (by omega), if_neg (by omega), if_neg (by omega), if_neg (by omega), if_neg (by omega), if_neg (by omega), if_neg (by omega), if_neg (by omega), if_neg (by omega)]
  rw [show 1 + 271 + N + 3 + B + 10 + (gr * 40) + 9 + N + 18 + 1 + 13 - (q + 9 + N) = 32 by omega]
  rfl
theorem lrp_71 (hq : q = 285 + N + B + gr * 40) (hg : 1 ≤ gr) (hN : 1 ≤ N) : lrho N B gr q (1 + 271 + N + 3 + B + 10 + (gr * 40) + 9 + N + 18 + 1 + 14) = 71 := by
  unfold lrho
  rw [if_neg (by omega), if_neg (by omega), if_neg (by omega), if_neg (by omega), if_neg (by omega), if_neg (by omega), if_neg (by omega), if_neg (by omega), if_neg (by omega), if_neg (by omega)]
  rw [show 1 + 271 + N + 3 + B + 10 + (gr * 40) + 9 + N + 18 + 1 + 14 - (q + 9 + N) = 33 by omega]
  rfl
theorem lrp_72 (hq : q = 285 + N + B + gr * 40) (hg : 1 ≤ gr) (hN : 1 ≤ N) : lrho N B gr q (1 + 271 + N + 3 + B + 10 + (gr * 40) + 9 + N + 18 + 1 + 15) = 72 := by
  unfold lrho
  rw [if_neg (by omega), if_neg (by omega), if_neg (by omega), if_neg (by omega), if_neg (by omega), if_neg (by omega), if_neg (by omega), if_neg (by omega), if_neg (by omega), if_neg (by omega)]
  rw [show 1 + 271 + N + 3 + B + 10 + (gr * 40) + 9 + N + 18 + 1 + 15 - (q + 9 + N) = 34 by omega]
  rfl
theorem lrp_73 (hq : q = 285 + N + B + gr * 40) (hg : 1 ≤ gr) (hN : 1 ≤ N) : lrho N B gr q (1 + 271 + N + 3 + B + 10 + (gr * 40) + 9 + N + 18 + 1 + 16) = 73 := by
  unfold lrho
  rw [if_neg (by omega), if_neg (by omega), if_neg (by omega), if_neg (by omega), if_neg (by omega), if_neg (by omega), if_neg (by omega), if_neg (by omega), if_neg (by omega), if_neg (by omega)]
  rw [show 1 + 271 + N + 3 + B + 10 + (gr * 40) + 9 + N + 18 + 1 + 16 - (q + 9 + N) = 35 by omega]
  rfl
theorem lrp_74 (hq : q = 285 + N + B + gr * 40) (hg : 1 ≤ gr) (hN : 1 ≤ N) : lrho N B gr q (1 + 271 + N + 3 + B + 10 + (gr * 40) + 9 + N + 18 + 1 + 17) = 74 := by
  unfold lrho
  rw [if_neg (by omega), if_neg (by omega), if_neg (by omega), if_neg (by omega), if_neg (by omega), if_neg (by omega), if_neg (by omega), if_neg (by omega), if_neg (by omega), if_neg (by omega)]
  rw [show 1 + 271 + N + 3 + B + 10 + (gr * 40) + 9 + N + 18 + 1 + 17 - (q + 9 + N) = 36 by omega]
  rfl
theorem lrp_75 (hq : q = 285 + N + B + gr * 40) (hg : 1 ≤ gr) (hN : 1 ≤ N) : lrho N B gr q (1 + 271 + N + 3 + B + 10 + (gr * 40) + 9 + N + 18 + 1 + 18) = 75 := by
  unfold lrho
  rw [if_neg (by omega), if_neg (by omega), if_neg (by omega), if_neg (by omega), if_neg (by omega), if_neg (by omega), if_neg (by omega), if_neg (by omega), if_neg (by omega), if_neg (by omega)]
  rw [show 1 + 271 + N + 3 + B + 10 + (gr * 40) + 9 + N + 18 + 1 + 18 - (q + 9 + N) = 37 by omega]
  rfl
theorem lrp_76 (hq : q = 285 + N + B + gr * 40) (hg : 1 ≤ gr) (hN : 1 ≤ N) : lrho N B gr q (1 + 271 + N + 3 + B + 10 + (gr * 40) + 9 + N + 18 + 1 + 19) = 76 := by
  unfold lrho
  rw [if_neg (by omega), if_neg (by omega), if_neg (by omega), if_neg (by omega), if_neg (by omega), if_neg (by omega), if_neg (by omega), if_neg (by omega), if_neg (by omega), if_neg (by omega)]
  rw [show 1 + 271 + N + 3 + B + 10 + (gr * 40) + 9 + N + 18 + 1 + 19 - (q + 9 + N) = 38 by omega]
  rfl
theorem lrp_77 (hq : q = 285 + N + B + gr * 40) (hg : 1 ≤ gr) (hN : 1 ≤ N) : lrho N B gr q (1 + 271 + N + 3 + B + 10 + (gr * 40) + 9 + N + 18 + 1 + 20) = 77 := by
  unfold lrho
  rw [if_neg (by omega), if_neg (by omega), if_neg (by omega), if_neg (by omega), if_neg (by omega), if_neg (by omega), if_neg (by omega), if_neg (by omega), if_neg (by omega), if_neg (by omega)]
  rw [show 1 + 271 + N + 3 + B + 10 + (gr * 40) + 9 + N + 18 + 1 + 20 - (q + 9 + N) = 39 by omega]
  rfl
theorem lrp_78 (hq : q = 285 + N + B + gr * 40) (hg : 1 ≤ gr) (hN : 1 ≤ N) : lrho N B gr q (1 + 271 + N + 3 + B + 10 + (gr * 40) + 9 + N + 18 + 1 + 21) = 78 := by
  unfold lrho
  rw [if_neg (by omega), if_neg (by omega), if_neg (by omega), if_neg (by omega), if_neg (by omega), if_neg (by omega), if_neg (by omega), if_neg (by omega), if_neg (by omega), if_neg (by omega)]
  rw [show 1 + 271 + N + 3 + B + 10 + (gr * 40) + 9 + N + 18 + 1 + 21 - (q + 9 + N) = 40 by omega]
  rfl
theorem lrp_79 (hq : q = 285 + N + B + gr * 40) (hg : 1 ≤ gr) (hN : 1 ≤ N) : lrho N B gr q (1 + 271 + N + 3 + B + 10 + (gr * 40) + 9 + N + 18 + 1 + 22) = 79 := by
  unfold lrho
  rw [if_neg (by omega), if_neg (by omega), if_neg (by omega), if_neg (by omega), if_neg (by omega), if_neg (by omega), if_neg (by omega), if_neg (by omega), if_neg (by omega), if_neg (by omega)]
  rw [show 1 + 271 + N + 3 + B + 10 + (gr * 40) + 9 + N + 18 + 1 + 22 - (q + 9 + N) = 41 by omega]
  rfl
theorem lrp_80 (hq : q = 285 + N + B + gr * 40) (hg : 1 ≤ gr) (hN : 1 ≤ N) : lrho N B gr q (1 + 271 + N + 3 + B + 10 + (gr * 40) + 9 + N + 18 + 1 + 23) = 80 := by
  unfold lrho
  rw [if_neg (by omega), if_neg (by omega), if_neg (by omega), if_neg (by omega), if_neg (by omega), if_neg (by omega), if_neg (by omega), if_neg (by omega), if_neg (by omega), if_neg (by omega)]
  rw [show 1 + 271 + N + 3 + B + 10 + (gr * 40) + 9 + N + 18 + 1 + 23 - (q + 9 + N) = 42 by omega]
  rfl
theorem lrp_81 (hq : q = 285 + N + B + gr * 40) (hg : 1 ≤ gr) (hN : 1 ≤ N) : lrho N B gr q (1 + 271 + N + 3 + B + 10 + (gr * 40) + 9 + N + 18 + 1 + 24) = 81 := by
  unfold lrho
  rw [if_neg (by omega), if_neg (by omega), if_neg (by omega), if_neg (by omega), if_neg (by omega), if_neg (by omega), if_neg (by omega), if_neg (by omega), if_neg (by omega), if_neg (by omega)]
  rw [show 1 + 271 + N + 3 + B + 10 + (gr * 40) + 9 + N + 18 + 1 + 24 - (q + 9 + N) = 43 by omega]
  rfl
theorem lrp_82 (hq : q = 285 + N + B + gr * 40) (hg : 1 ≤ gr) (hN : 1 ≤ N) : lrho N B gr q (1 + 271 + N + 3 + B + 10 + (gr * 40) + 9 + N + 18 + 1 + 25) = 82 := by
  unfold lrho
  rw [if_neg (by omega), if_neg (by omega), if_neg (by omega), if_neg (by omega), if_neg (by omega), if_neg (by omega), if_neg (by omega), if_neg (by omega), if_neg (by omega), if_neg (by omega)]
  rw [show 1 + 271 + N + 3 + B + 10 + (gr * 40) + 9 + N + 18 + 1 + 25 - (q + 9 + N) = 44 by omega]
  rfl
theorem lrp_83 (hq : q = 285 + N + B + gr * 40) (hg : 1 ≤ gr) (hN : 1 ≤ N) : lrho N B gr q (1 + 271 + N + 3 + B + 10 + (gr * 40) + 9 + N + 18 + 1 + 26) = 83 := by
  unfold lrho
  rw [if_neg (by omega), if_neg (by omega), if_neg (by omega), if_neg (by omega), if_neg (by omega), if_neg (by omega), if_neg (by omega), if_neg (by omega), if_neg (by omega), if_neg (by omega)]
  rw [show 1 + 271 + N + 3 + B + 10 + (gr * 40) + 9 + N + 18 + 1 + 26 - (q + 9 + N) = 45 by omega]
  rfl
theorem lrp_84 (hq : q = 285 + N + B + gr * 40) (hg : 1 ≤ gr) (hN : 1 ≤ N) : lrho N B gr q (1 + 271 + N + 3 + B + 10 + (gr * 40) + 9 + N + 18 + 1 + 27) = 84 := by
  unfold lrho
  rw [if_neg (by omega), if_neg (by omega), if_neg (by omega), if_neg (by omega), if_neg (by omega), if_neg (by omega), if_neg (by omega), if_neg (by omega), if_neg (by omega), if_neg (by omega)]
  rw [show 1 + 271 + N + 3 + B + 10 + (gr * 40) + 9 + N + 18 + 1 + 27 - (q + 9 + N) = 46 by omega]
  rfl
theorem lrp_85 (hq : q = 285 + N + B + gr * 40) (hg : 1 ≤ gr) (hN : 1 ≤ N) : lrho N B gr q (1 + 271 + N + 3 + B + 10 + (gr * 40) + 9 + N + 18 + 1 + 28) = 85 := by
  unfold lrho
  rw [if_neg (by omega), if_neg (by omega), if_neg (by omega), if_neg (by omega), if_neg (by omega), if_neg (by omega), if_neg (by omega), if_neg (by omega), if_neg (by omega), if_neg (by omega)]
  rw [show 1 + 271 + N + 3 + B + 10 + (gr * 40) + 9 + N + 18 + 1 + 28 - (q + 9 + N) = 47 by omega]
  rfl
theorem lrp_86 (hq : q = 285 + N + B + gr * 40) (hg : 1 ≤ gr) (hN : 1 ≤ N) : lrho N B gr q (1 + 271 + N + 3 + B + 10 + (gr * 40) + 9 + N + 18 + 1 + 29) = 86 := by
  unfold lrho
  rw [if_neg (by omega), if_neg (by omega), if_neg (by omega), if_neg (by omega), if_neg (by omega), if_neg (by omega), if_neg (by omega), if_neg (by omega), if_neg (by omega), if_neg (by omega)]
  rw [show 1 + 271 + N + 3 + B + 10 + (gr * 40) + 9 + N + 18 + 1 + 29 - (q + 9 + N) = 48 by omega]
  rfl
theorem lrp_87 (hq : q = 285 + N + B + gr * 40) (hg : 1 ≤ gr) (hN : 1 ≤ N) : lrho N B gr q (1 + 271 + N + 3 + B + 10 + (gr * 40) + 9 + N + 18 + 1 + 30) = 87 := by
  unfold lrho
  rw [if_neg (by omega), if_neg (by omega), if_neg (by omega), if_neg (by omega), if_neg (by omega), if_neg (by omega), if_neg (by omega), if_neg (by omega), if_neg (by omega), if_neg (by omega)]
  rw [show 1 + 271 + N + 3 + B + 10 + (gr * 40) + 9 + N + 18 + 1 + 30 - (q + 9 + N) = 49 by omega]
  rfl
theorem lrp_88 (hq : q = 285 + N + B + gr * 40) (hg : 1 ≤ gr) (hN : 1 ≤ N) : lrho N B gr q (1 + 271 + N + 3 + B + 10 + (gr * 40) + 9 + N + 18 + 1 + 31) = 88 := by
  unfold lrho
  rw [if_neg (by omega), if_neg (by omega), if_neg (by omega), if_neg (by omega), if_neg (by omega), if_neg (by omega), if_neg (by omega), if_neg (by omega), if_neg (by omega), if_neg (by omega)]
  rw [show 1 + 271 + N + 3 + B + 10 + (gr * 40) + 9 + N + 18 + 1 + 31 - (q + 9 + N) = 50 by omega]
  rfl
theorem lrp_89 (hq : q = 285 + N + B + gr * 40) (hg : 1 ≤ gr) (hN : 1 ≤ N) : lrho N B gr q (1 + 271 + N + 3 + B + 10 + (gr * 40) + 9 + N + 18 + 1 + 32) = 89 := by
  unfold lrho
  rw [if_neg (by omega), if_neg (by omega), if_neg (by omega), if_neg (by omega), if_neg (by omega), if_neg (by omega), if_neg (by omega), if_neg (by omega), if_neg (by omega), if_neg (by omega)]
  rw [show 1 + 271 + N + 3 + B + 10 + (gr * 40) + 9 + N + 18 + 1 + 32 - (q + 9 + N) = 51 by omega]
  rfl
theorem lrp_90 (hq : q = 285 + N + B + gr * 40) (hg : 1 ≤ gr) (hN : 1 ≤ N) : lrho N B gr q (1 + 271 + N + 3 + B + 10 + (gr * 40) + 9 + N + 18 + 1 + 33) = 90 := by
  unfold lrho
  rw [if_neg (by omega), if_neg (by omega), if_neg (by omega), if_neg (by omega), if_neg (by omega), if_neg (by omega), if_neg (by omega), if_neg (by omega), if_neg (by omega), if_neg (by omega)]
  rw [show 1 + 271 + N + 3 + B + 10 + (gr * 40) + 9 + N + 18 + 1 + 33 - (q + 9 + N) = 52 by omega]
  rfl
theorem lrp_91 (hq : q = 285 + N + B + gr * 40) (hg : 1 ≤ gr) (hN : 1 ≤ N) : lrho N B gr q (1 + 271 + N + 3 + B + 10 + (gr * 40) + 9 + N + 18 + 1 + 34) = 91 := by
  unfold lrho
  rw [if_neg (by omega), if_neg (by omega), if_neg (by omega), if_neg (by omega), if_neg (by omega), if_neg (by omega), if_neg (by omega), if_neg (by omega), if_neg (by omega), if_neg (by omega)]
  rw [show 1 + 271 + N + 3 + B + 10 + (gr * 40) + 9 + N + 18 + 1 + 34 - (q + 9 + N) = 53 by omega]
  rfl
theorem lrp_92 (hq : q = 285 + N + B + gr * 40) (hg : 1 ≤ gr) (hN : 1 ≤ N) : lrho N B gr q (1 + 271 + N + 3 + B + 10 + (gr * 40) + 9 + N + 18 + 1 + 35) = 92 := by
  unfold lrho
  rw [if_neg (by omega), if_neg (by omega), if_neg (by omega), if_neg (by omega), if_neg (by omega), if_neg (by omega), if_neg (by omega), if_neg (by omega), if_neg (by omega), if_neg (by omega)]
  rw [show 1 + 271 + N + 3 + B + 10 + (gr * 40) + 9 + N + 18 + 1 + 35 - (q + 9 + N) = 54 by omega]
  rfl
theorem lrp_93 (hq : q = 285 + N + B + gr * 40) (hg : 1 ≤ gr) (hN : 1 ≤ N) : lrho N B gr q (1 + 271 + N + 3 + B + 10 + (gr * 40) + 9 + N + 18 + 37) = 93 := by
  unfold lrho
  rw [if_neg (by omega), if_neg (by omega), if_neg (by omega), if_neg (by omega), if_neg (by omega), if_neg (by omega), if_neg (by omega), if_neg (by omega), if_neg (by omega), if_neg (by omega)]
  rw [show 1 + 271 + N + 3 + B + 10 + (gr * 40) + 9 + N + 18 + 37 - (q + 9 + N) = 55 by omega]
  rfl
theorem lpi_94 {i : Nat} (hi : i < 256) : lpi N B gr (94 + i) = 1 + 12 + i := by
  unfold lpi
  rw [if_neg (by omega), if_pos (by omega)]
  omega
theorem lpi_sy {i : Nat} (hi : i < N) : lpi N B gr (350 + i) = 1 + 271 + i := by
  unfold lpi
  rw [if_neg (by omega), if_neg (by omega), if_pos (by omega)]
  omega
theorem lpi_ma {i : Nat} (hi : i < N) : lpi N B gr (350 + N + i) = 1 + 271 + N + 3 + B + 10 + (gr * 40) + 9 + i := by
  unfold lpi
  rw [if_neg (by omega), if_neg (by omega), if_neg (by omega), if_pos (by omega)]
  omega
theorem lpi_bf {i : Nat} (hi : i < B) : lpi N B gr (350 + 2 * N + i) = 1 + 271 + N + 3 + i := by
  unfold lpi
  rw [if_neg (by omega), if_neg (by omega), if_neg (by omega), if_neg (by omega), if_pos (by omega)]
  omega
theorem lpi_qu {i : Nat} : lpi N B gr (350 + 2 * N + B + i) = 1 + 271 + N + 3 + B + 10 + i := by
  unfold lpi
  rw [if_neg (by omega), if_neg (by omega), if_neg (by omega), if_neg (by omega), if_neg (by omega)]
  omega
set_option maxRecDepth 100000 in
set_option maxHeartbeats 4000000 in
theorem lpi_inv (hq : q = 285 + N + B + gr * 40) (hg : 1 ≤ gr) (hN : 1 ≤ N) {k : Nat} (hk : k < 350 + 2 * N + B + gr * 40) : lrho N B gr q (lpi N B gr k) = k := by
  by_cases h : k < 94
  · match k, h with
    | 0, _ => exact lrp_0 hq hg hN
    | 1, _ => exact lrp_1 hq hg hN
    | 2, _ => exact lrp_2 hq hg hN
    | 3, _ => exact lrp_3 hq hg hN
    | 4, _ => exact lrp_4 hq hg hN
    | 5, _ => exact lrp_5 hq hg hN
    | 6, _ => exact lrp_6 hq hg hN
    | 7, _ => exact lrp_7 hq hg hN
    | 8, _ => exact lrp_8 hq hg hN
    | 9, _ => exact lrp_9 hq hg hN
    | 10, _ => exact lrp_10 hq hg hN
    | 11, _ => exact lrp_11 hq hg hN
    | 12, _ => exact lrp_12 hq hg hN
    | 13, _ => exact lrp_13 hq hg hN
    | 14, _ => exact lrp_14 hq hg hN
    | 15, _ => exact lrp_15 hq hg hN
    | 16, _ => exact lrp_16 hq hg hN
    | 17, _ => exact lrp_17 hq hg hN
    | 18, _ => exact lrp_18 hq hg hN
    | 19, _ => exact lrp_19 hq hg hN
    | 20, _ => exact lrp_20 hq hg hN
    | 21, _ => exact lrp_21 hq hg hN
    | 22, _ => exact lrp_22 hq hg hN
    | 23, _ => exact lrp_23 hq hg hN
    | 24, _ => exact lrp_24 hq hg hN
    | 25, _ => exact lrp_25 hq hg hN
    | 26, _ => exact lrp_26 hq hg hN
    | 27, _ => exact lrp_27 hq hg hN
    | 28, _ => exact lrp_28 hq hg hN
    | 29, _ => exact lrp_29 hq hg hN
    | 30, _ => exact lrp_30 hq hg hN
    | 31, _ => exact lrp_31 hq hg hN
    | 32, _ => exact lrp_32 hq hg hN
    | 33, _ => exact lrp_33 hq hg hN
    | 34, _ => exact lrp_34 hq hg hN
    | 35, _ => exact lrp_35 hq hg hN
    | 36, _ => exact lrp_36 hq hg hN
    | 37, _ => exact lrp_37 hq hg hN
    | 38, _ => exact lrp_38 hq hg hN
    | 39, _ => exact lrp_39 hq hg hN
    | 40, _ => exact lrp_40 hq hg hN
    | 41, _ => exact lrp_41 hq hg hN
    | 42, _ => exact lrp_42 hq hg hN
    | 43, _ => exact lrp_43 hq hg hN
    | 44, _ => exact lrp_44 hq hg hN
    | 45, _ => exact lrp_45 hq hg hN
    | 46, _ => exact lrp_46 hq hg hN
    | 47, _ => exact lrp_47 hq hg hN
    | 48, _ => exact lrp_48 hq hg hN
    | 49, _ => exact lrp_49 hq hg hN
    | 50, _ => exact lrp_50 hq hg hN
    | 51, _ => exact lrp_51 hq hg hN
    | 52, _ => exact lrp_52 hq hg hN
    | 53, _ => exact lrp_53 hq hg hN
    | 54, _ => exact lrp_54 hq hg hN
    | 55, _ => exact lrp_55 hq hg hN
    | 56, _ => exact lrp_56 hq hg hN
    | 57, _ => exact lrp_57 hq hg hN
    | 58, _ => exact lrp_58 hq hg hN
    | 59, _ => exact lrp_59 hq hg hN
    | 60, _ => exact lrp_60 hq hg hN
    | 61, _ => exact lrp_61 hq hg hN
    | 62, _ => exact lrp_62 hq hg hN
    | 63, _ => exact lrp_63 hq hg hN
    | 64, _ => exact lrp_64 hq hg hN
    | 65, _ => exact lrp_65 hq hg hN
    | 66, _ => exact lrp_66 hq hg hN
    | 67, _ => exact lrp_67 hq hg hN
    | 68, _ => exact lrp_68 hq hg hN
    | 69, _ => exact lrp_69 hq hg hN
    | 70, _ => exact lrp_70 hq hg hN
    | 71, _ => exact lrp_71 hq hg hN
    | 72, _ => exact lrp_72 hq hg hN
    | 73, _ => exact lrp_73 hq hg hN
    | 74, _ => exact lrp_74 hq hg hN
    | 75, _ => exact lrp_75 hq hg hN
    | 76, _ => exact lrp_76 hq hg hN
    | 77, _ => exact lrp_77 hq hg hN
    | 78, _ => exact lrp_78 hq hg hN
    | 79, _ => exact lrp_79 hq hg hN
    | 80, _ => exact lrp_80 hq hg hN
    | 81, _ => exact lrp_81 hq hg hN
    | 82, _ => exact lrp_82 hq hg hN
    | 83, _ => exact lrp_83 hq hg hN
    | 84, _ => exact lrp_84 hq hg hN
    | 85, _ => exact lrp_85 hq hg hN
    | 86, _ => exact lrp_86 hq hg hN
    | 87, _ => exact lrp_87 hq hg hN
    | 88, _ => exact lrp_88 hq hg hN
    | 89, _ => exact lrp_89 hq hg hN
    | 90, _ => exact lrp_90 hq hg hN
    | 91, _ => exact lrp_91 hq hg hN
    | 92, _ => exact lrp_92 hq hg hN
    | 93, _ => exact lrp_93 hq hg hN
    | k + 94, h => exact absurd h (by omega)
  · rcases (show k < 350 ∨ (350 ≤ k ∧ k < 350 + N) ∨ (350 + N ≤ k ∧ k < 350 + 2 * N) ∨ (350 + 2 * N ≤ k ∧ k < 350 + 2 * N + B) ∨ 350 + 2 * N + B ≤ k by omega) with h1 | h1 | h1 | h1 | h1
    · obtain ⟨i, rfl⟩ : ∃ i, k = 94 + i := ⟨k - 94, by omega⟩
      rw [lpi_94 (by omega)]
      unfold lrho
      rw [if_neg (by omega), if_pos (by omega)]
      omega
    · obtain ⟨i, rfl⟩ : ∃ i, k = 350 + i := ⟨k - 350, by omega⟩
      rw [lpi_sy (by omega)]
      unfold lrho
      rw [if_neg (by omega), if_neg (by omega), if_neg (by omega), if_pos (by omega)]
      omega
    · obtain ⟨i, rfl⟩ : ∃ i, k = 350 + N + i := ⟨k - (350 + N), by omega⟩
      rw [lpi_ma (by omega)]
      unfold lrho
      rw [if_neg (by omega), if_neg (by omega), if_neg (by omega), if_neg (by omega), if_neg (by omega), if_neg (by omega), if_neg (by omega), if_neg (by omega), if_neg (by omega), if_pos (by omega)]
      omega
    · obtain ⟨i, rfl⟩ : ∃ i, k = 350 + 2 * N + i := ⟨k - (350 + 2 * N), by omega⟩
      rw [lpi_bf (by omega)]
      unfold lrho
      rw [if_neg (by omega), if_neg (by omega), if_neg (by omega), if_neg (by omega), if_neg (by omega), if_pos (by omega)]
      omega
    · obtain ⟨i, rfl⟩ : ∃ i, k = 350 + 2 * N + B + i := ⟨k - (350 + 2 * N + B), by omega⟩
      rw [lpi_qu]
      unfold lrho
      rw [if_neg (by omega), if_neg (by omega), if_neg (by omega), if_neg (by omega), if_neg (by omega), if_neg (by omega), if_neg (by omega), if_pos (by omega)]
      omega
theorem lpi_inj (hg : 1 ≤ gr) (hN : 1 ≤ N) {i j : Nat} (hi : i < 350 + 2 * N + B + gr * 40) (hj : j < 350 + 2 * N + B + gr * 40) (e : lpi N B gr i = lpi N B gr j) : i = j := by
  have a := lpi_inv (q := 285 + N + B + gr * 40) rfl hg hN hi
  have b := lpi_inv (q := 285 + N + B + gr * 40) rfl hg hN hj
  rw [e] at a
  exact a.symm.trans b
theorem lpi_lt {k : Nat} (hk : k < 350 + 2 * N + B + gr * 40) : lpi N B gr k < 350 + 2 * N + B + gr * 40 := by
  by_cases h : k < 94
  · match k, h with
    | 0, _ => exact (show 0 < 350 + 2 * N + B + gr * 40 by omega)
    | 1, _ => exact (show 1 < 350 + 2 * N + B + gr * 40 by omega)
    | 2, _ => exact (show 1 + 10 < 350 + 2 * N + B + gr * 40 by omega)
    | 3, _ => exact (show 1 + 269 < 350 + 2 * N + B + gr * 40 by omega)
    | 4, _ => exact (show 1 + 270 < 350 + 2 * N + B + gr * 40 by omega)
    | 5, _ => exact (show 1 + 11 < 350 + 2 * N + B + gr * 40 by omega)
    | 6, _ => exact (show 1 + 271 + N < 350 + 2 * N + B + gr * 40 by omega)
    | 7, _ => exact (show 1 + 268 < 350 + 2 * N + B + gr * 40 by omega)
    | 8, _ => exact (show 1 + 271 + N + 1 < 350 + 2 * N + B + gr * 40 by omega)
    | 9, _ => exact (show 1 + 271 + N + 2 < 350 + 2 * N + B + gr * 40 by omega)
    | 10, _ => exact (show 1 + 271 + N + 3 + B + 2 < 350 + 2 * N + B + gr * 40 by omega)
    | 11, _ => exact (show 1 + 271 + N + 3 + B < 350 + 2 * N + B + gr * 40 by omega)
    | 12, _ => exact (show 1 + 271 + N + 3 + B + 1 < 350 + 2 * N + B + gr * 40 by omega)
    | 13, _ => exact (show 1 + 271 + N + 3 + B + 3 < 350 + 2 * N + B + gr * 40 by omega)
    | 14, _ => exact (show 1 + 271 + N + 3 + B + 4 < 350 + 2 * N + B + gr * 40 by omega)
    | 15, _ => exact (show 1 + 271 + N + 3 + B + 5 < 350 + 2 * N + B + gr * 40 by omega)
    | 16, _ => exact (show 1 + 271 + N + 3 + B + 6 < 350 + 2 * N + B + gr * 40 by omega)
    | 17, _ => exact (show 1 + 271 + N + 3 + B + 7 < 350 + 2 * N + B + gr * 40 by omega)
    | 18, _ => exact (show 1 + 271 + N + 3 + B + 9 < 350 + 2 * N + B + gr * 40 by omega)
    | 19, _ => exact (show 1 + 271 + N + 3 + B + 10 + (gr * 40) < 350 + 2 * N + B + gr * 40 by omega)
    | 20, _ => exact (show 1 + 271 + N + 3 + B + 10 + (gr * 40) + 2 < 350 + 2 * N + B + gr * 40 by omega)
    | 21, _ => exact (show 1 + 271 + N + 3 + B + 8 < 350 + 2 * N + B + gr * 40 by omega)
    | 22, _ => exact (show 1 + 271 + N + 3 + B + 10 + (gr * 40) + 1 < 350 + 2 * N + B + gr * 40 by omega)
    | 23, _ => exact (show 1 + 271 + N + 3 + B + 10 + (gr * 40) + 3 < 350 + 2 * N + B + gr * 40 by omega)
    | 24, _ => exact (show 1 + 271 + N + 3 + B + 10 + (gr * 40) + 4 < 350 + 2 * N + B + gr * 40 by omega)
    | 25, _ => exact (show 1 + 271 + N + 3 + B + 10 + (gr * 40) + 5 < 350 + 2 * N + B + gr * 40 by omega)
    | 26, _ => exact (show 1 + 271 + N + 3 + B + 10 + (gr * 40) + 8 < 350 + 2 * N + B + gr * 40 by omega)
    | 27, _ => exact (show 1 + 271 + N + 3 + B + 10 + (gr * 40) + 9 + N < 350 + 2 * N + B + gr * 40 by omega)
    | 28, _ => exact (show 1 + 271 + N + 3 + B + 10 + (gr * 40) + 9 + N + 1 < 350 + 2 * N + B + gr * 40 by omega)
    | 29, _ => exact (show 1 + 271 + N + 3 + B + 10 + (gr * 40) + 9 + N + 2 < 350 + 2 * N + B + gr * 40 by omega)
    | 30, _ => exact (show 1 + 271 + N + 3 + B + 10 + (gr * 40) + 6 < 350 + 2 * N + B + gr * 40 by omega)
    | 31, _ => exact (show 1 + 271 + N + 3 + B + 10 + (gr * 40) + 7 < 350 + 2 * N + B + gr * 40 by omega)
    | 32, _ => exact (show 1 + 271 + N + 3 + B + 10 + (gr * 40) + 9 + N + 3 < 350 + 2 * N + B + gr * 40 by omega)
    | 33, _ => exact (show 1 + 271 + N + 3 + B + 10 + (gr * 40) + 9 + N + 4 < 350 + 2 * N + B + gr * 40 by omega)
    | 34, _ => exact (show 1 + 271 + N + 3 + B + 10 + (gr * 40) + 9 + N + 5 < 350 + 2 * N + B + gr * 40 by omega)
    | 35, _ => exact (show 1 + 271 + N + 3 + B + 10 + (gr * 40) + 9 + N + 6 < 350 + 2 * N + B + gr * 40 by omega)
    | 36, _ => exact (show 1 + 271 + N + 3 + B + 10 + (gr * 40) + 9 + N + 7 < 350 + 2 * N + B + gr * 40 by omega)
    | 37, _ => exact (show 1 + 271 + N + 3 + B + 10 + (gr * 40) + 9 + N + 8 < 350 + 2 * N + B + gr * 40 by omega)
    | 38, _ => exact (show 1 + 271 + N + 3 + B + 10 + (gr * 40) + 9 + N + 9 < 350 + 2 * N + B + gr * 40 by omega)
    | 39, _ => exact (show 1 + 271 + N + 3 + B + 10 + (gr * 40) + 9 + N + 10 < 350 + 2 * N + B + gr * 40 by omega)
    | 40, _ => exact (show 1 + 271 + N + 3 + B + 10 + (gr * 40) + 9 + N + 11 < 350 + 2 * N + B + gr * 40 by omega)
    | 41, _ => exact (show 1 + 271 + N + 3 + B + 10 + (gr * 40) + 9 + N + 12 < 350 + 2 * N + B + gr * 40 by omega)
    | 42, _ => exact (show 1 + 271 + N + 3 + B + 10 + (gr * 40) + 9 + N + 13 < 350 + 2 * N + B + gr * 40 by omega)
    | 43, _ => exact (show 1 + 271 + N + 3 + B + 10 + (gr * 40) + 9 + N + 14 < 350 + 2 * N + B + gr * 40 by omega)
    | 44, _ => exact (show 1 + 271 + N + 3 + B + 10 + (gr * 40) + 9 + N + 15 < 350 + 2 * N + B + gr * 40 by omega)
    | 45, _ => exact (show 1 + 271 + N + 3 + B + 10 + (gr * 40) + 9 + N + 17 < 350 + 2 * N + B + gr * 40 by omega)
    | 46, _ => exact (show 1 + 271 + N + 3 + B + 10 + (gr * 40) + 9 + N + 16 < 350 + 2 * N + B + gr * 40 by omega)
    | 47, _ => exact (show 1 + 1 < 350 + 2 * N + B + gr * 40 by omega)
    | 48, _ => exact (show 1 + 2 < 350 + 2 * N + B + gr * 40 by omega)
    | 49, _ => exact (show 1 + 3 < 350 + 2 * N + B + gr * 40 by omega)
    | 50, _ => exact (show 1 + 4 < 350 + 2 * N + B + gr * 40 by omega)
    | 51, _ => exact (show 1 + 5 < 350 + 2 * N + B + gr * 40 by omega)
    | 52, _ => exact (show 1 + 6 < 350 + 2 * N + B + gr * 40 by omega)
    | 53, _ => exact (show 1 + 7 < 350 + 2 * N + B + gr * 40 by omega)
    | 54, _ => exact (show 1 + 8 < 350 + 2 * N + B + gr * 40 by omega)
    | 55, _ => exact (show 1 + 9 < 350 + 2 * N + B + gr * 40 by omega)
    | 56, _ => exact (show 1 + 271 + N + 3 + B + 10 + (gr * 40) + 9 + N + 18 < 350 + 2 * N + B + gr * 40 by omega)
    | 57, _ => exact (show 1 + 271 + N + 3 + B + 10 + (gr * 40) + 9 + N + 18 + 1 < 350 + 2 * N + B + gr * 40 by omega)
    | 58, _ => exact (show 1 + 271 + N + 3 + B + 10 + (gr * 40) + 9 + N + 18 + 1 + 1 < 350 + 2 * N + B + gr * 40 by omega)
    | 59, _ => exact (show 1 + 271 + N + 3 + B + 10 + (gr * 40) + 9 + N + 18 + 1 + 2 < 350 + 2 * N + B + gr * 40 by omega)
    | 60, _ => exact (show 1 + 271 + N + 3 + B + 10 + (gr * 40) + 9 + N + 18 + 1 + 3 < 350 + 2 * N + B + gr * 40 by omega)
    | 61, _ => exact (show 1 + 271 + N + 3 + B + 10 + (gr * 40) + 9 + N + 18 + 1 + 4 < 350 + 2 * N + B + gr * 40 by omega)
    | 62, _ => exact (show 1 + 271 + N + 3 + B + 10 + (gr * 40) + 9 + N + 18 + 1 + 5 < 350 + 2 * N + B + gr * 40 by omega)
    | 63, _ => exact (show 1 + 271 + N + 3 + B + 10 + (gr * 40) + 9 + N + 18 + 1 + 6 < 350 + 2 * N + B + gr * 40 by omega)
    | 64, _ => exact (show 1 + 271 + N + 3 + B + 10 + (gr * 40) + 9 + N + 18 + 1 + 7 < 350 + 2 * N + B + gr * 40 by omega)
    | 65, _ => exact (show 1 + 271 + N + 3 + B + 10 + (gr * 40) + 9 + N + 18 + 1 + 8 < 350 + 2 * N + B + gr * 40 by omega)
    | 66, _ => exact (show 1 + 271 + N + 3 + B + 10 + (gr * 40) + 9 + N + 18 + 1 + 9 < 350 + 2 * N + B + gr * 40 by omega)
    | 67, _ => exact (show 1 + 271 + N + 3 + B + 10 + (gr * 40) + 9 + N + 18 + 1 + 10 < 350 + 2 * N + B + gr * 40 by omega)
    | 68, _ => exact (show 1 + 271 + N + 3 + B + 10 + (gr * 40) + 9 + N + 18 + 1 + 11 < 350 + 2 * N + B + gr * 40 by omega)
    | 69, _ => exact (show 1 + 271 + N + 3 + B + 10 + (gr * 40) + 9 + N + 18 + 1 + 12 < 350 + 2 * N + B + gr * 40 by omega)
    | 70, _ => exact (show 1 + 271 + N + 3 + B + 10 + (gr * 40) + 9 + N + 18 + 1 + 13 < 350 + 2 * N + B + gr * 40 by omega)
    | 71, _ => exact (show 1 + 271 + N + 3 + B + 10 + (gr * 40) + 9 + N + 18 + 1 + 14 < 350 + 2 * N + B + gr * 40 by omega)
    | 72, _ => exact (show 1 + 271 + N + 3 + B + 10 + (gr * 40) + 9 + N + 18 + 1 + 15 < 350 + 2 * N + B + gr * 40 by omega)
    | 73, _ => exact (show 1 + 271 + N + 3 + B + 10 + (gr * 40) + 9 + N + 18 + 1 + 16 < 350 + 2 * N + B + gr * 40 by omega)
    | 74, _ => exact (show 1 + 271 + N + 3 + B + 10 + (gr * 40) + 9 + N + 18 + 1 + 17 < 350 + 2 * N + B + gr * 40 by omega)
    | 75, _ => exact (show 1 + 271 + N + 3 + B + 10 + (gr * 40) + 9 + N + 18 + 1 + 18 < 350 + 2 * N + B + gr * 40 by omega)
    | 76, _ => exact (show 1 + 271 + N + 3 + B + 10 + (gr * 40) + 9 + N + 18 + 1 + 19 < 350 + 2 * N + B + gr * 40 by omega)
    | 77, _ => exact (show 1 + 271 + N + 3 + B + 10 + (gr * 40) + 9 + N + 18 + 1 + 20 < 350 + 2 * N + B + gr * 40 by omega)
    | 78, _ => exact (show 1 + 271 + N + 3 + B + 10 + (gr * 40) + 9 + N + 18 + 1 + 21 < 350 + 2 * N + B + gr * 40 by omega)
    | 79, _ => exact (show 1 + 271 + N + 3 + B + 10 + (gr * 40) + 9 + N + 18 + 1 + 22 < 350 + 2 * N + B + gr * 40 by omega)
    | 80, _ => exact (show 1 + 271 + N + 3 + B + 10 + (gr * 40) + 9 + N + 18 + 1 + 23 < 350 + 2 * N + B + gr * 40 by omega)
    | 81, _ => exact (show 1 + 271 + N + 3 + B + 10 + (gr * 40) + 9 + N + 18 + 1 + 24 < 350 + 2 * N + B + gr * 40 by omega)
    | 82, _ => exact (show 1 + 271 + N + 3 + B + 10 + (gr * 40) + 9 + N + 18 + 1 + 25 < 350 + 2 * N + B + gr * 40 by omega)
    | 83, _ => exact (show 1 + 271 + N + 3 + B + 10 + (gr * 40) + 9 + N + 18 + 1 + 26 < 350 + 2 * N + B + gr * 40 by omega)
    | 84, _ => exact (show 1 + 271 + N + 3 + B + 10 + (gr * 40) + 9 + N + 18 + 1 + 27 < 350 + 2 * N + B + gr * 40 by omega)
    | 85, _ => exact (show 1 + 271 + N + 3 + B + 10 + (gr * 40) + 9 + N + 18 + 1 + 28 < 350 + 2 * N + B + gr * 40 by omega)
    | 86, _ => exact (show 1 + 271 + N + 3 + B + 10 + (gr * 40) + 9 + N + 18 + 1 + 29 < 350 + 2 * N + B + gr * 40 by omega)
    | 87, _ => exact (show 1 + 271 + N + 3 + B + 10 + (gr * 40) + 9 + N + 18 + 1 + 30 < 350 + 2 * N + B + gr * 40 by omega)
    | 88, _ => exact (show 1 + 271 + N + 3 + B + 10 + (gr * 40) + 9 + N + 18 + 1 + 31 < 350 + 2 * N + B + gr * 40 by omega)
    | 89, _ => exact (show 1 + 271 + N + 3 + B + 10 + (gr * 40) + 9 + N + 18 + 1 + 32 < 350 + 2 * N + B + gr * 40 by omega)
    | 90, _ => exact (show 1 + 271 + N + 3 + B + 10 + (gr * 40) + 9 + N + 18 + 1 + 33 < 350 + 2 * N + B + gr * 40 by omega)
    | 91, _ => exact (show 1 + 271 + N + 3 + B + 10 + (gr * 40) + 9 + N + 18 + 1 + 34 < 350 + 2 * N + B + gr * 40 by omega)
    | 92, _ => exact (show 1 + 271 + N + 3 + B + 10 + (gr * 40) + 9 + N + 18 + 1 + 35 < 350 + 2 * N + B + gr * 40 by omega)
    | 93, _ => exact (show 1 + 271 + N + 3 + B + 10 + (gr * 40) + 9 + N + 18 + 37 < 350 + 2 * N + B + gr * 40 by omega)
    | k + 94, h => exact absurd h (by omega)
  · unfold lpi
    rw [if_neg h]
    split
    · omega
    · split
      · omega
      · split
        · omega
        · split
          · omega
          · omega
/-- the world behind both constructors -/
def FrV (E : gE) (f : Nat → va_E) (N B gr : Nat) : Prop := (f 0 = .inr (11, [.ref (gAd E 1), .int (0), .int (0), .ref (gAd E 2), .ref (gAd E 8), .ref (gAd E 13), .ref (gAd E 17), .ref (gAd E 25), .ref (gAd E 37), .ref (gAd E 32), .ref (gAd E 40), .ref (gAd E 41), .ref (gAd E 44), .ref (gAd E 47), .ref (gAd E 50), .ref (gAd E 53), .ref (gAd E 54), .ref (gAd E 55)])) ∧ (f 1 = oB (gDA E) (1024) (fun _ => 0)) ∧ (f 53 = oB (gDA E) (2000) (fun _ => 0)) ∧ (f 54 = oI (gDA E) (65) (fun _ => 0)) ∧ (f 55 = oI (gDA E) (65) (fun _ => 0)) ∧ (f 47 = .inr (8, [.ref (gAd E 48), .ref (gAd E 49), .int (0)])) ∧ (f 48 = oI (gDA E) (16) (fun _ => 0)) ∧ (f 49 = oI (gDA E) (16) (fun _ => 0)) ∧ (f 50 = .inr (8, [.ref (gAd E 51), .ref (gAd E 52), .int (0)])) ∧ (f 51 = oI (gDA E) (16) (fun _ => 0)) ∧ (f 52 = oI (gDA E) (16) (fun _ => 0)) ∧ (f 2 = .inr (2, [.int (nI N), .ref (gAd E 3), .ref (gAd E 4), .ref (gAd E 5), .ref (gAd E 6), .ref (gAd E 7), .int (0), .int (0), .int ((1 : Int32)), .int ((-1 : Int32)), .int (0), .int (0)])) ∧ (f 6 = oI (gDA E) (N) (flt (fun _ => 0) 0 (N) ((-1 : Int32)))) ∧ (f 5 = oR (gDA E) (256) (rwA E (94) (256))) ∧ (∀ i, i < 256 → f (94 + i) = oB (gDA E) 128 (fun _ => 0)) ∧ (f 7 = oI (gDA E) (256) (fun _ => 0)) ∧ (f 3 = oI (gDA E) (N) (fun _ => 0)) ∧ (f 4 = oR (gDA E) (N) (rwA E (350) (N))) ∧ (∀ i, i < N → f (350 + i) = oB (gDA E) 128 (fun _ => 0)) ∧ (f 8 = .inr (0, [.ref (gAd E 2), .ref (gAd E 9), .ref (gAd E 10), .ref (gAd E 11), .ref (gAd E 12), .int (0), .int (0), .int (0)])) ∧ (f 10 = oI (gDA E) (N) (flt (fun _ => 0) 0 (N) ((-1 : Int32)))) ∧ (f 9 = oR (gDA E) (B) (rwA E (350 + 2 * N) (B))) ∧ (∀ i, i < B → f (350 + 2 * N + i) = oB (gDA E) 128 (fun _ => 0)) ∧ (f 11 = oI (gDA E) (B) (fun _ => 0)) ∧ (f 12 = oI (gDA E) (B) (fun _ => 0)) ∧ (f 13 = .inr (6, [.ref (gAd E 2), .ref (gAd E 8), .ref (gAd E 14), .ref (gAd E 15), .ref (gAd E 16), .int (0), .int (0)])) ∧ (f 16 = oI (gDA E) (N) (flt (fun _ => 0) 0 (N) ((-1 : Int32)))) ∧ (f 14 = oI (gDA E) (40) (fun _ => 0)) ∧ (f 15 = oB (gDA E) (128) (fun _ => 0)) ∧ (f 17 = .inr (9, [.ref (gAd E 13), .ref (gAd E 18), .ref (gAd E 19), .ref (gAd E 20), .ref (gAd E 21), .int (0), .ref (gAd E 22), .int (0), .int (0), .ref (gAd E 23), .ref (gAd E 24), .int (0), .int (0)])) ∧ (f 20 = oI (gDA E) (N) (flt (fun _ => 0) 0 (N) ((-1 : Int32)))) ∧ (f 21 = oI (gDA E) (40) (fun _ => 0)) ∧ (f 18 = oR (gDA E) (gr * 40) (rwA E (350 + 2 * N + B) (gr * 40))) ∧ (∀ i, i < gr * 40 → f (350 + 2 * N + B + i) = oB (gDA E) 128 (fun _ => 0)) ∧ (f 19 = oI (gDA E) (gr * 40) (fun _ => 0)) ∧ (f 22 = oI (gDA E) (gr) (fun _ => 0)) ∧ (f 23 = oZ (gDA E) (N) (fun _ => 0)) ∧ (f 24 = oI (gDA E) (N) (fun _ => 0)) ∧ (f 25 = .inr (10, [.ref (gAd E 2), .ref (gAd E 8), .ref (gAd E 13), .ref (gAd E 17), .ref (gAd E 26), .ref (gAd E 27), .ref (gAd E 28), .ref (gAd E 29), .int (0), .ref (gAd E 30), .ref (gAd E 31), .int (0)])) ∧ (f 30 = oB (gDA E) (128) (fun _ => 0)) ∧ (f 31 = oB (gDA E) (128) (fun _ => 0)) ∧ (f 26 = oR (gDA E) (N) (rwA E (350 + N) (N))) ∧ (∀ i, i < N → f (350 + N + i) = oB (gDA E) 128 (fun _ => 0)) ∧ (f 27 = oZ (gDA E) (N) (fun _ => 0)) ∧ (f 28 = oZ (gDA E) (N) (fun _ => 0)) ∧ (f 29 = oI (gDA E) (N) (fun _ => 0)) ∧ (f 32 = .inr (5, [.ref (gAd E 33), .ref (gAd E 34), .ref (gAd E 35), .ref (gAd E 36)])) ∧ (f 33 = oI (gDA E) (65) (fun _ => 0)) ∧ (f 34 = oI (gDA E) (32) (fun _ => 0)) ∧ (f 35 = oI (gDA E) (32) (fun _ => 0)) ∧ (f 36 = oI (gDA E) (32) (fun _ => 0)) ∧ (f 37 = .inr (7, [.ref (gAd E 25), .ref (gAd E 17), .ref (gAd E 32), .ref (gAd E 38), .ref (gAd E 39), .int (0)])) ∧ (f 38 = oI (gDA E) (4168) (fun _ => 0)) ∧ (f 39 = oI (gDA E) (4168) (fun _ => 0)) ∧ (f 40 = .inr (4, [.ref (gAd E 25), .ref (gAd E 37), .ref (gAd E 1)])) ∧ (f 41 = .inr (3, [.ref (gAd E 25), .ref (gAd E 37), .ref (gAd E 42), .ref (gAd E 43)])) ∧ (f 42 = oB (gDA E) (128) (fun _ => 0)) ∧ (f 43 = oZ (gDA E) (17) (fun _ => 0)) ∧ (f 44 = .inr (1, [.ref (gAd E 25), .ref (gAd E 37), .ref (gAd E 32), .ref (gAd E 45), .ref (gAd E 46), .int (0)])) ∧ (f 46 = oI (gDA E) (65) (fun _ => 0)) ∧ (f 45 = oI (gDA E) (N) (fun _ => 0)) ∧ (f 56 = .inr (12, [.int (0), .int (nI N), .int (nI B), .int (nI gr), .ref (gAd E 57), .int (0), .ref (gAd E 58), .ref (gAd E 59), .ref (gAd E 60), .int (0), .int (0), .int ((1 : Int32)), .int ((-1 : Int32)), .int (0), .int (0), .ref (gAd E 61), .ref (gAd E 62), .ref (gAd E 63), .int (0), .long (0), .int (0), .int (0), .int (0), .ref (gAd E 64), .ref (gAd E 65), .int (0), .ref (gAd E 66), .ref (gAd E 67), .ref (gAd E 68), .int (0), .ref (gAd E 69), .ref (gAd E 70), .ref (gAd E 71), .int (0), .int (0), .ref (gAd E 72), .ref (gAd E 73), .ref (gAd E 74), .ref (gAd E 75), .ref (gAd E 76), .ref (gAd E 77), .null, .int (0), .ref (gAd E 78), .ref (gAd E 79), .ref (gAd E 80), .ref (gAd E 81), .int (0), .ref (gAd E 82), .ref (gAd E 83), .ref (gAd E 84), .ref (gAd E 85), .ref (gAd E 86), .ref (gAd E 87), .ref (gAd E 88), .ref (gAd E 89), .int (0), .ref (gAd E 90), .ref (gAd E 91), .ref (gAd E 92), .long (0)])) ∧ (f 73 = oI (gDA E) (1024) (flt (fun _ => 0) 0 (1024) (-1))) ∧ (f 74 = oI (gDA E) (1024) (flt (fun _ => 0) 0 (1024) (-1))) ∧ (f 75 = oI (gDA E) (1024) (flt (fun _ => 0) 0 (1024) (-1))) ∧ (f 76 = oI (gDA E) (1024) (flt (fun _ => 0) 0 (1024) (-1))) ∧ (f 77 = oI (gDA E) (1024) (flt (fun _ => 0) 0 (1024) (-1))) ∧ (f 57 = oB (gDA E) (1024) (fun _ => 0)) ∧ (f 58 = oB (gDA E) (131072) (fun _ => 0)) ∧ (f 59 = oI (gDA E) (256) (fun _ => 0)) ∧ (f 60 = oB (gDA E) (32768) (fun _ => 0)) ∧ (f 61 = oI (gDA E) (64) (fun _ => 0)) ∧ (f 62 = oJ (gDA E) (64) (fun _ => 0)) ∧ (f 63 = oB (gDA E) (8192) (fun _ => 0)) ∧ (f 64 = oI (gDA E) (40) (fun _ => 0)) ∧ (f 65 = oB (gDA E) (5120) (fun _ => 0)) ∧ (f 66 = oI (gDA E) (16) (fun _ => 0)) ∧ (f 67 = oI (gDA E) (1024) (fun _ => 0)) ∧ (f 68 = oB (gDA E) (131072) (fun _ => 0)) ∧ (f 69 = oI (gDA E) (1024) (fun _ => 0)) ∧ (f 70 = oZ (gDA E) (1024) (fun _ => 0)) ∧ (f 71 = oB (gDA E) (131072) (fun _ => 0)) ∧ (f 72 = oB (gDA E) (1024) (fun _ => 0)) ∧ (f 78 = oB (gDA E) (128) (fun _ => 0)) ∧ (f 79 = oB (gDA E) (128) (fun _ => 0)) ∧ (f 80 = oI (gDA E) (40) (fun _ => 0)) ∧ (f 81 = oB (gDA E) (5120) (fun _ => 0)) ∧ (f 82 = oB (gDA E) (128) (fun _ => 0)) ∧ (f 83 = oZ (gDA E) (1024) (fun _ => 0)) ∧ (f 84 = oI (gDA E) (32) (fun _ => 0)) ∧ (f 85 = oI (gDA E) (32) (fun _ => 0)) ∧ (f 86 = oI (gDA E) (65) (fun _ => 0)) ∧ (f 87 = oI (gDA E) (32) (fun _ => 0)) ∧ (f 88 = oI (gDA E) (32) (fun _ => 0)) ∧ (f 89 = oI (gDA E) (32) (fun _ => 0)) ∧ (f 90 = oI (gDA E) (70) (fun _ => 0)) ∧ (f 91 = oI (gDA E) (70) (fun _ => 0)) ∧ (f 92 = oB (gDA E) (2000) (fun _ => 0)) ∧ (f 93 = oJ (gDA E) 1 (fun _ => 0))
theorem arrK {s : State} {args : Array Value} {ty : FieldType} (h : (Cond.arrayClass ty).before args s = true) : ∃ cA : ClassId, ArrOfT s cA ty ∧ s.vm.findClass ("[" ++ ty.toString) = some cA := by
  obtain ⟨cA, kA, comp, h1, h2, h3⟩ := Cond.arrayClass_spec h
  exact ⟨cA, fun n z => ⟨(fun k e => nomatch e), kA, h2, comp, h3⟩, h1⟩
theorem arrKK {s : State} {args : Array Value} (h : (Cond.arrayOver (.array .byte)).before args s = true) : ∃ cA : ClassId, ArrOfT s cA (.array .byte) ∧ s.vm.findClass ("[" ++ (FieldType.array .byte).toString) = some cA := by
  obtain ⟨comp, cA, kA, h1, h2, h3, h4, h5⟩ := arrayOver_specB h
  exact ⟨cA, fun n z => ⟨(fun k e => nomatch e), kA, h3, comp, h4⟩, h5⟩
theorem iw_X0 : ∀ w ∈ wsX00, w ∈ lw_tbl := by decide +kernel
theorem iw_X1 : ∀ w ∈ wsX10, w ∈ lw_tbl := by decide +kernel
theorem iw_X2 : ∀ w ∈ wsX20, w ∈ lw_tbl := by decide +kernel
theorem iw_X3 : ∀ w ∈ wsX30, w ∈ lw_tbl := by decide +kernel
theorem iw_X4 : ∀ w ∈ wsX40, w ∈ lw_tbl := by decide +kernel
theorem iw_X5 : ∀ w ∈ wsX50, w ∈ lw_tbl := by decide +kernel
theorem iw_X6 : ∀ w ∈ wsX60, w ∈ lw_tbl := by decide +kernel
theorem iw_X7 : ∀ w ∈ wsX70, w ∈ lw_tbl := by decide +kernel
theorem iw_X8 : ∀ w ∈ wsX80, w ∈ lw_tbl := by decide +kernel
theorem iw_X9 : ∀ w ∈ wsX90, w ∈ lw_tbl := by decide +kernel
theorem iw_X10 : ∀ w ∈ wsX100, w ∈ lw_tbl := by decide +kernel
theorem iw_X11 : ∀ w ∈ wsX110, w ∈ lw_tbl := by decide +kernel
theorem iw_X12 : ∀ w ∈ wsX120, w ∈ lw_tbl := by decide +kernel
theorem st_str : ∀ q ∈ gStr, Cond.stringRef q.1 q.2.1 q.2.2 ∈ lw_tbl ∧ Cond.initialized q.1 ∈ lw_tbl := by decide +kernel
theorem st_nst : ∀ q ∈ gNst, Cond.methodLinkNest q.1 q.2.1 q.2.2.1 q.2.2.2 ∈ lw_tbl := by decide +kernel
theorem st_dcl : ∀ x ∈ gDcl, Cond.declares x ∈ lw_tbl := by decide +kernel
theorem st_cas : ∀ X ∈ gExc, Cond.castable X X ∈ lw_tbl := by decide +kernel
theorem st_not : ∀ X ∈ gExc, ∀ Y ∈ gExc, X ≠ Y → Cond.not (.castable X Y) ∈ flatC (Jvm.Cond.and given_1 narrow_1) := by decide +kernel
theorem st_zu : Cond.isRef (.static Bundle.tN "UNASSIGNED_STACK" Bundle.steD) ∈ flatC (Jvm.Cond.and given_1 narrow_1) ∧ Cond.isRef (.static Bundle.tN "SUPPRESSED_SENTINEL" Bundle.listD) ∈ flatC (Jvm.Cond.and given_1 narrow_1) := by decide +kernel
theorem st_zl : Cond.laysStatic Bundle.tN "UNASSIGNED_STACK" Bundle.steD ∈ lw_tbl ∧ Cond.laysStatic Bundle.tN "SUPPRESSED_SENTINEL" Bundle.listD ∈ lw_tbl ∧ Cond.initialized Bundle.tN ∈ lw_tbl := by decide +kernel
theorem st_ini {C : String} {args : Array Value} {s : State} (h : (Cond.initialized C).before args s = true) : ∃ c, s.vm.findClass C = some c := by
  cases hc : s.vm.findClass C with
  | none => simp [Cond.before, Cond.holds, Cond.value, hc] at h
  | some c => exact ⟨c, rfl⟩
set_option maxRecDepth 100000 in
set_option maxHeartbeats 4000000 in
theorem st_gS {l : Launch} {s : State} {args : Array Value} (hst : l.stackTraces = false) (hts : ∀ w ∈ lw_tbl, w.before args s = true) (hgv : (Jvm.Cond.and given_1 narrow_1).before args s = true) : ∃ (D : va_G) (dA : Nat → ClassId), ∀ n ad, gS (l, D, dA, n, ad) (fun q => s.heap.size ≤ q) s s.heap := by
  have hfl := flat_of_before _ hgv
  obtain ⟨c0, i0, hk0⟩ := u_known (C := RX0) (T := TX0) (N := 8) (n := 8) hts iw_X0 (hts (.instantiable RX0 8) (by decide +kernel))
  obtain ⟨c1, i1, hk1⟩ := u_known (C := RX1) (T := TX1) (N := 6) (n := 6) hts iw_X1 (hts (.instantiable RX1 6) (by decide +kernel))
  obtain ⟨c2, i2, hk2⟩ := u_known (C := RX2) (T := TX2) (N := 12) (n := 12) hts iw_X2 (hts (.instantiable RX2 12) (by decide +kernel))
  obtain ⟨c3, i3, hk3⟩ := u_known (C := RX3) (T := TX3) (N := 4) (n := 4) hts iw_X3 (hts (.instantiable RX3 4) (by decide +kernel))
  obtain ⟨c4, i4, hk4⟩ := u_known (C := RX4) (T := TX4) (N := 3) (n := 3) hts iw_X4 (hts (.instantiable RX4 3) (by decide +kernel))
  obtain ⟨c5, i5, hk5⟩ := u_known (C := RX5) (T := TX5) (N := 4) (n := 4) hts iw_X5 (hts (.instantiable RX5 4) (by decide +kernel))
  obtain ⟨c6, i6, hk6⟩ := u_known (C := RX6) (T := TX6) (N := 7) (n := 7) hts iw_X6 (hts (.instantiable RX6 7) (by decide +kernel))
  obtain ⟨c7, i7, hk7⟩ := u_known (C := RX7) (T := TX7) (N := 6) (n := 6) hts iw_X7 (hts (.instantiable RX7 6) (by decide +kernel))
  obtain ⟨c8, i8, hk8⟩ := u_known (C := RX8) (T := TX8) (N := 3) (n := 3) hts iw_X8 (hts (.instantiable RX8 3) (by decide +kernel))
  obtain ⟨c9, i9, hk9⟩ := u_known (C := RX9) (T := TX9) (N := 13) (n := 13) hts iw_X9 (hts (.instantiable RX9 13) (by decide +kernel))
  obtain ⟨c10, i10, hk10⟩ := u_known (C := RX10) (T := TX10) (N := 12) (n := 12) hts iw_X10 (hts (.instantiable RX10 12) (by decide +kernel))
  obtain ⟨c11, i11, hk11⟩ := u_known (C := RX11) (T := TX11) (N := 18) (n := 18) hts iw_X11 (hts (.instantiable RX11 18) (by decide +kernel))
  obtain ⟨c12, i12, hk12⟩ := u_known (C := RX12) (T := TX12) (N := 61) (n := 61) hts iw_X12 (hts (.instantiable RX12 61) (by decide +kernel))
  obtain ⟨a0, ha0, hb0⟩ := arrK (hts (.arrayClass .byte) (by decide +kernel))
  obtain ⟨a1, ha1, hb1⟩ := arrK (hts (.arrayClass .int) (by decide +kernel))
  obtain ⟨a2, ha2, hb2⟩ := arrK (hts (.arrayClass .boolean) (by decide +kernel))
  obtain ⟨a3, ha3, hb3⟩ := arrK (hts (.arrayClass .long) (by decide +kernel))
  have hov : (Cond.arrayOver (.array .byte)).before args s = true := hts _ (by decide +kernel)
  obtain ⟨a4, ha4, hb4⟩ := arrKK hov
  refine ⟨(fun k => [c0, c1, c2, c3, c4, c5, c6, c7, c8, c9, c10, c11, c12].getD k c0, fun k => [i0, i1, i2, i3, i4, i5, i6, i7, i8, i9, i10, i11, i12].getD k i0), fun k => [a0, a1, a2, a3, a4].getD k a0, fun n ad => ⟨⟨?_, ?_⟩, ?_, ?_, ?_, hst, ?_⟩⟩
  · intro k q hq
    match k, hq with
    | 0, hq => cases hq; exact hk0
    | 1, hq => cases hq; exact hk1
    | 2, hq => cases hq; exact hk2
    | 3, hq => cases hq; exact hk3
    | 4, hq => cases hq; exact hk4
    | 5, hq => cases hq; exact hk5
    | 6, hq => cases hq; exact hk6
    | 7, hq => cases hq; exact hk7
    | 8, hq => cases hq; exact hk8
    | 9, hq => cases hq; exact hk9
    | 10, hq => cases hq; exact hk10
    | 11, hq => cases hq; exact hk11
    | 12, hq => cases hq; exact hk12
    | k + 13, hq => exact nomatch hq
  · intro k q hq
    match k, hq with
    | 0, hq => cases hq; exact ⟨ha0, hb0⟩
    | 1, hq => cases hq; exact ⟨ha1, hb1⟩
    | 2, hq => cases hq; exact ⟨ha2, hb2⟩
    | 3, hq => cases hq; exact ⟨ha3, hb3⟩
    | 4, hq => cases hq; exact ⟨ha4, hb4⟩
    | k + 5, hq => exact nomatch hq
  · exact vx_Zqof (hts _ st_zl.1) (hts _ st_zl.2.2) (hfl _ st_zu.1) (fun a h => Nat.not_le.mpr h)
  · exact vx_Zqof (hts _ st_zl.2.1) (hts _ st_zl.2.2) (hfl _ st_zu.2) (fun a h => Nat.not_le.mpr h)
  · intro q hq
    obtain ⟨h1, h2⟩ := st_str q hq
    obtain ⟨cur, hcur⟩ := st_ini (hts _ h2)
    have h3 := hts _ h1
    obtain ⟨k, cf, i, a, -, -, -, -, -, h4⟩ := Cond.stringRef_spec hcur h3
    exact ⟨a, vk_R.of h3 h4⟩
  · refine ⟨?_, fun q hq => va_Nw.of rfl (hts _ (st_nst q hq)), fun X hX => va_Nw.of rfl (hts _ (st_cas X hX)), fun X hX Y hY hne => va_Nc.of (hfl _ (st_not X hX Y hY hne)), fun x hx => va_Nw.of rfl (hts _ (st_dcl x hx))⟩
    exact hov
theorem cl_ex (lo hi : Nat) (h1 : lo < hi) (h2 : hi < 2 ^ 31) (x : Int32) : ∃ n, lo ≤ n ∧ n ≤ hi ∧ clI (nI lo) (nI hi) x = nI n ∧ clJ (nI lo) (nI hi) x = nI n := by
  by_cases h0 : x < 0
  · have z : (0 : Int32) ≤ nI lo := nI_le (Nat.zero_le lo) (by omega)
    have a : ¬ nI lo < x := fun q => Int32.lt_irrefl (Int32.lt_trans (Int32.lt_of_lt_of_le h0 z) q)
    have b : ¬ nI lo ≤ x := fun q => Int32.lt_irrefl (Int32.lt_of_lt_of_le (Int32.lt_of_lt_of_le h0 z) q)
    refine ⟨lo, Nat.le_refl _, Nat.le_of_lt h1, ?_, ?_⟩
    · unfold clI
      rw [if_neg a, if_pos (nI_lt h1 h2)]
    · unfold clJ
      rw [if_neg b]
  · obtain ⟨t, ht, rfl⟩ := nI_of h0
    rcases Nat.lt_or_ge lo t with cc | cc
    · rcases Nat.lt_or_ge t hi with d | d
      · refine ⟨t, Nat.le_of_lt cc, Nat.le_of_lt d, ?_, ?_⟩
        · unfold clI
          rw [if_pos (nI_lt cc ht), if_pos (nI_lt d h2)]
        · unfold clJ
          rw [if_pos (nI_le (Nat.le_of_lt cc) ht), if_pos (nI_le (Nat.le_of_lt d) h2)]
      · refine ⟨hi, Nat.le_of_lt h1, Nat.le_refl _, ?_, ?_⟩
        · unfold clI
          rw [if_pos (nI_lt cc ht), if_neg (fun q => absurd ((nI_ltI ht h2).mp q) (by omega))]
        · unfold clJ
          rw [if_pos (nI_le (Nat.le_of_lt cc) ht)]
          split
          · rename_i q
            have := (nI_leI ht h2).mp q
            rw [show t = hi by omega]
          · rfl
    · refine ⟨lo, Nat.le_refl _, Nat.le_of_lt h1, ?_, ?_⟩
      · unfold clI
        rw [if_neg (fun q => absurd ((nI_ltI (by omega) ht).mp q) (by omega)), if_pos (nI_lt h1 h2)]
      · unfold clJ
        split
        · rename_i q
          have := (nI_leI (by omega) ht).mp q
          rw [if_pos (nI_le (by omega) h2), show t = lo by omega]
        · rfl
end GLS
