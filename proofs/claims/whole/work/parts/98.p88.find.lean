/-! ===== pure: find, make ===== -/
section PXO
variable {N B gr r u : Nat} {V W : Nat → Rw} {m : M5} {tk : Nat → Bool} {A : MS} {D D' D2 : CfT} {R R' : RfT} {g : Bool} {hd hi hd' hi' : Nat → Nat} {tp : Nat → Int32} {tl : Nat} {ow : Nat → Int} {ex : Nat → Int32} {i d s : Nat}
theorem IM.p47 (h : IM N B gr u g A D R m V tk hd hi tp tl) (e : Dp47 D D') (f : Fn [] [50, 51] R R') : IM N B gr u g A D' R' m V tk hd hi tp tl := h.fr (e.1 2508 (by decide)) (e.2 29 (by decide) (by decide)) f (by decide) (by decide) ⟨fun j hj => e.1 j (by revert hj; revert j; decide), fun k hk => e.2 k (by revert hk; revert k; decide) (by revert hk; revert k; decide), fun j hj => f.1.1 j (List.not_mem_nil), fun k hk => f.1.2.1 k (by revert hk; revert k; decide)⟩ (by decide) (e.2 42 (by decide) (by decide))
theorem IM.p50 (h : IM N B gr u g A D R m V tk hd hi tp tl) (e : Dp50 D D') (f : Fn [] [50, 51] R R') : IM N B gr u g A D' R' m V tk hd hi tp tl := h.fr (e.1 2508 (by decide)) (e.2 29 (by decide) (by decide)) f (by decide) (by decide) ⟨fun j hj => e.1 j (by revert hj; revert j; decide), fun k hk => e.2 k (by revert hk; revert k; decide) (by revert hk; revert k; decide), fun j hj => f.1.1 j (List.not_mem_nil), fun k hk => f.1.2.1 k (by revert hk; revert k; decide)⟩ (by decide) (e.2 42 (by decide) (by decide))
/-- a call that uses the tape begins -/
theorem IM.tn (hN : N ≤ 1024) (h : IM N B gr u g A D R m V tk hd hi tp tl) : ∃ D1 R0 R1, d_X11_useTape N (vA A) D = some (nI tl, D1) ∧ d_X11_needMounted N B gr A D1 = some (.inl ((), A, D1)) ∧ e_useTape R = some (nI tl, R0) ∧ e_notMounted R0 = some (0, R1) ∧ IM N B gr u g A D1 R1 m V tk hd hi tp 0 ∧ OwT A R1 m V ∧ rS R1 0 = 0 ∧ tl ≤ 1024 ∧ (∀ c, c < 1024 → rA R1 49 c = 0) := by
  obtain ⟨a1, a2, a3⟩ := h.tape
  obtain ⟨n1, R1, n2, h1, ot, t0, t49, -⟩ := a3.nm hN
  exact ⟨_, _, R1, a1, n1, a2, n2, h1, ot, t0, h.2.2.2.2.2.2.2.1.2.2.2.1, t49⟩
/-- the tape as a path -/
theorem IM.path {n : Nat} (hn : n ≤ 1024) (h : IM N B gr u g A D R m V tk hd hi tp tl) : ∃ D' R', IM N B gr u g A D' R' m V tk hd hi tp tl ∧ TpR D' R' tp ∧ Fn [] [50, 51] R R' ∧ ((d_X8_parse_47 N (vA A) D 0 (nI n) = some (0, D') ∧ e_path R 0 (nI n) 0 = some (-1, R')) ∨ ∃ k st ln, d_X8_parse_47 N (vA A) D 0 (nI n) = some (1, D') ∧ e_path R 0 (nI n) 0 = some (nI k, R') ∧ PthC47 D' k st ln ∧ PthR R' 0 k st ln ∧ NmS tp k st ln) := by
  obtain ⟨t1, t2, t3⟩ := h.2.2.2.2.2.2.2.1.1
  obtain ⟨D', R', e1, e2, -, e4⟩ := j_path47 (N := N) (V := vA A) (a := 0) (to := n) (base := 0) hn (Nat.zero_le _) (by decide) (fun j _ => t2 j) t3
  have h1 := h.p47 e1 e2
  exact ⟨D', R', h1, h1.2.2.2.2.2.2.2.1.1, e2, e4⟩
theorem TpR.a43 {x : Nat → Int32} (h : TpR D R tp) : TpR D (setA R 43 x) tp := ⟨h.1, h.2.1, fun j hj => by rw [rA_n (by decide)]; exact h.2.2 j hj⟩
theorem PthR.a43 {x : Nat → Int32} {b k : Nat} {st ln : Nat → Nat} (h : PthR R b k st ln) : PthR (setA R 43 x) b k st ln := fun j hj => by
  rw [rA_n (by decide), rA_n (by decide)]
  exact h j hj
theorem r_find (hN1 : 61 ≤ N) (hN : N ≤ 1024) (h : IM N B gr u g A D R m V tk hd hi tp tl) (hL : LH V hd hi := by assumption) : RetR N B gr (u + 100) ex (d_X11_find N B gr A D) (e_find R) := by
  obtain ⟨D1, R0, R1, c1, c2, c3, c4, h1, ot, t0, htl, -⟩ := h.tn hN
  rw [d_X11_find, bnd2_o c1, bndF_l c2, e_find, bnd2_o c3, bnd2_o c4, if_pos rfl]
  obtain ⟨D2, R2, h2, ht, f2, ⟨p1, p2⟩ | ⟨k, st, ln, p1, p2, pC, pR, pN⟩⟩ := h1.path htl
  · rw [bnd2_o p1, bnd2_o p2, if_pos rfl, if_pos rfl]
    exact RetR.ok h2 (by omega) (by rw [f2.1.1 0 (by decide)]; exact t0) rfl rfl
  · have hk := pC.2.1
    obtain ⟨v, g', w1, w2⟩ := j_walk47 hN1 hN h2.1 h2.2.1 ht pC pR pN (Nat.le_refl k)
    have w3 : d_X4_walk_47 N (vA A) D2 (nI k) = some v := by
      rcases w2 with ⟨rfl, q⟩ | ⟨rfl, q⟩ | ⟨t, q1, rfl, q2⟩
      · exact q
      · exact q
      · rw [q2, if_pos (Or.inl rfl)]
    rw [bnd2_o p1, bnd2_o p2, if_neg (by decide), if_neg (nI_m1 (by omega)), pC.1, bnd_o w3, bnd2_o (show e_walk R2 0 (nI k) = some (v, setA R2 43 g') from w1)]
    exact RetR.ok h2.a43 (by omega) (by show rS R2 0 = 0; rw [f2.1.1 0 (by decide)]; exact t0) rfl rfl
end PXO
