/-! ===== pure: a change joins the reference's batch ===== -/
section PUW
variable {R : RfT} {N B : Nat}
/-- nothing changed but these, and no stamp -/
def Fn (S T : List Nat) (R R' : RfT) : Prop := Fq S T R R' ∧ rWh R' = rWh R ∧ rLW R' = rLW R
theorem Fn.rf {S T : List Nat} : Fn S T R R := ⟨Fq.rf, rfl, rfl⟩
theorem Fn.tr {S T : List Nat} {R1 R2 R3 : RfT} (a : Fn S T R1 R2) (b : Fn S T R2 R3) : Fn S T R1 R3 := ⟨a.1.tr b.1, b.2.1.trans a.2.1, b.2.2.trans a.2.2⟩
theorem Fn.wk {S T S' T' : List Nat} {R1 R2 : RfT} (a : Fn S T R1 R2) (hS : ∀ j, j ∈ S → j ∈ S') (hT : ∀ j, j ∈ T → j ∈ T') : Fn S' T' R1 R2 := ⟨a.1.wk hS hT, a.2⟩
theorem Fn.s {S T : List Nat} {j : Nat} {v : Int32} (h : j ∈ S) : Fn S T R (setS R j v) := ⟨Fq.s h, rfl, rfl⟩
theorem Fn.a {S T : List Nat} {j : Nat} {x : Nat → Int32} (h : j ∈ T) : Fn S T R (setA R j x) := ⟨Fq.a h, rfl, rfl⟩
theorem RH.fn {S T : List Nat} {h : Hw} {R' : RfT} (hr : RH N B h R) (f : Fn S T R R') (hS : ∀ j, j ∈ [2, 9, 10, 11, 12, 13, 14, 18, 20] → j ∉ S) (hT : ∀ k, k ∈ [6, 7, 8, 15, 17, 39, 40, 44] → k ∉ T) : RH N B h R' := hr.eq (fun j hj => f.1.1 j (hS j hj)) (fun k hk => f.1.2.1 k (hT k (List.mem_append.mpr (Or.inl hk) : k ∈ [6, 7, 8, 15, 17, 39, 40] ++ [44]))) f.2.1 f.2.2 (by
  rw [f.1.2.1 44 (hT 44 (by decide))]
  exact hr.b44)
theorem frC_s {M : QC} {c k : Nat} : frC R M c (k + 1) = frC R M c k + (if M (tkB R c k) = none then 1 else 0) := rfl
theorem frC_le {M : QC} {c : Nat} : ∀ k, frC R M c k ≤ k
  | 0 => Nat.le_refl _
  | k + 1 => by
    have := frC_le (M := M) (c := c) k
    rw [frC_s]
    split <;> omega
theorem frC_mono {M : QC} {c k : Nat} : ∀ s, k ≤ s → frC R M c k ≤ frC R M c s
  | 0, h => by
    rw [Nat.le_zero.mp h]
    exact Nat.le_refl _
  | s + 1, h => by
    by_cases e : k = s + 1
    · rw [e]
      exact Nat.le_refl _
    · have := frC_mono (M := M) (c := c) s (show k ≤ s by omega)
      rw [frC_s]
      omega
theorem RBt.some {n i t : Nat} {M : QC} (hb : RBt N R n M) (hN : N ≤ 1024) (ht : t < N) (hi : i < n) (e : rA R 45 i = nI t) : ¬ M t = none := fun z => by
  obtain ⟨u, hu, e2, e3⟩ := hb.2.2.1 i hi
  have : t = u := nI_inj (by omega) (by omega) (e.symm.trans e2)
  rw [← this, z] at e3
  cases e3
theorem z_fresh_l {n c s : Nat} {M q : QC} (hb : RBt N R n M) (h : QcR N R c s q) (hN : N ≤ 1024) : ∀ (m k : Nat), k ≤ s → s - k < m → e_fresh_4 R m (nI c) (nI (frC R M c k)) (nI k) = some (nI (frC R M c s)) := by
  intro m
  induction m with
  | zero => intro k _ h; exact absurd h (Nat.not_lt_zero _)
  | succ m ih =>
    intro k hk hm
    have h0 := h.1
    have h2 := h.2.2.1
    have hb2 := hb.2.1
    rw [e_fresh_4, ld_n h0 (by decide), h.2.1]
    by_cases c1 : k = s
    · rw [c1, if_pos (nI_le (Nat.le_refl _) (by omega))]
    · obtain ⟨t1, t2, t3⟩ := h.tk hN (show k < s by omega)
      have q1 := ih (k + 1) (by omega) (by omega)
      rw [frC_s] at q1
      obtain ⟨r, e, w⟩ := z_batchAt (t := tkB R c k) hb hN
      rw [if_neg (nI_ge (by omega) (by omega)), show (64 : Int32) = nI 64 from rfl, pk_mul, nI_add, ld_n (by omega) (by decide), t2, bnd_o e]
      rcases w with ⟨w1, w2⟩ | ⟨i, w1, w2, w3⟩
      · rw [if_pos w1, nI_1, nI_1]
        rw [if_pos w2] at q1
        exact q1
      · rw [if_neg (by rw [w2]; exact nI_m1 (by omega)), nI_1]
        rw [if_neg (hb.some hN t1 w1 w3)] at q1
        exact q1
theorem z_fresh {n c s : Nat} {M q : QC} (hb : RBt N R n M) (h : QcR N R c s q) (hN : N ≤ 1024) : e_fresh R (nI c) = some (nI (frC R M c s)) := by
  have h2 := h.2.2.1
  exact z_fresh_l hb h hN fuL 0 (Nat.zero_le _) (by rw [fuL_4]; omega)
theorem RBt.put {R' : RfT} {n n' k t : Nat} {M : QC} {x : Rw} (h : RBt N R n M) (hN : N ≤ 1024) (ht : t < N) (hk : (k < n ∧ n' = n ∧ rA R 45 k = nI t) ∨ (k = n ∧ n' = n + 1 ∧ M t = none)) (hn : n' ≤ 40) (e47 : rS R' 47 = nI n') (e45 : rA R' 45 = upd (rA R 45) k (nI t)) (e46 : ∀ j, j ≠ k → nr (fl (rA R' 46) j) = nr (fl (rA R 46) j)) (e46k : nr (fl (rA R' 46) k) = x) (hb : Byt (rA R' 46)) : RBt N R' n' (upQ M t x) := by
  obtain ⟨h1, h2, h3, h4, h5, h6⟩ := id h
  have hut : upQ M t x t = Option.some x := if_pos rfl
  have hun : ∀ u, u ≠ t → upQ M t x u = M u := fun u hu => if_neg hu
  have hold : ∀ j, j < n' → j ≠ k → ∃ u, u < N ∧ u ≠ t ∧ rA R 45 j = nI u ∧ M u = Option.some (nr (fl (rA R 46) j)) := fun j hj hjk => by
    have hjn : j < n := by
      rcases hk with hk | hk
      · omega
      · omega
    obtain ⟨u, u1, u2, u3⟩ := h3 j hjn
    refine ⟨u, u1, fun z => ?_, u2, u3⟩
    rcases hk with ⟨k1, k2, k3⟩ | ⟨k1, k2, k3⟩
    · exact hjk (h4 j k hjn k1 (by rw [u2, k3, z]))
    · rw [← z, u3] at k3
      cases k3
  have hat : rA R' 45 k = nI t := by rw [e45, pk_us]
  have han : ∀ j, j ≠ k → rA R' 45 j = rA R 45 j := fun j hj => by rw [e45, pk_un hj]
  have hk' : k < n' := by
    rcases hk with hk | hk
    · omega
    · omega
  refine ⟨e47, hn, fun j hj => ?_, fun i j hi hj e => ?_, fun u hu => ?_, hb⟩
  · by_cases c : j = k
    · rw [c]
      exact ⟨t, ht, hat, by rw [hut, e46k]⟩
    · obtain ⟨u, u1, u2, u3, u4⟩ := hold j hj c
      exact ⟨u, u1, by rw [han j c]; exact u3, by rw [hun u u2, u4, e46 j c]⟩
  · by_cases c : i = k
    · by_cases c2 : j = k
      · rw [c, c2]
      · obtain ⟨u, u1, u2, u3, u4⟩ := hold j hj c2
        rw [c, hat, han j c2, u3] at e
        exact absurd (nI_inj (by omega) (by omega) e).symm u2
    · by_cases c2 : j = k
      · obtain ⟨u, u1, u2, u3, u4⟩ := hold i hi c
        rw [c2, hat, han i c, u3] at e
        exact absurd (nI_inj (by omega) (by omega) e) u2
      · obtain ⟨u, u1, u2, u3, u4⟩ := hold i hi c
        obtain ⟨v, v1, v2, v3, v4⟩ := hold j hj c2
        rw [han i c, han j c2] at e
        have hin : i < n := by
          rcases hk with hk | hk
          · omega
          · omega
        have hjn : j < n := by
          rcases hk with hk | hk
          · omega
          · omega
        exact h4 i j hin hjn e
  · by_cases c : u = t
    · exact ⟨k, hk', by rw [hat, nI_clamp (by omega), c]⟩
    · rw [hun u c] at hu
      obtain ⟨j, hj, ej⟩ := h5 u hu
      obtain ⟨v, v1, v2, v3⟩ := h3 j hj
      have hjk : j ≠ k := fun z => by
        rcases hk with ⟨k1, k2, k3⟩ | ⟨k1, k2, k3⟩
        · rw [z, k3, nI_clamp (by omega)] at ej
          exact c ej.symm
        · omega
      refine ⟨j, ?_, by rw [han j hjk]; exact ej⟩
      rcases hk with hk | hk
      · omega
      · omega
theorem z_join_l {n c s : Nat} {M q : QC} (h : QcR N R c s q) (hN : N ≤ 1024) (h28 : Byt (rA R 28)) (hn : n + frC R M c s ≤ 40) : ∀ (m k : Nat) (X : RfT), k ≤ s → s - k < m → RBt N X (n + frC R M c k) (ovK R M c k) → Fn [47] [45, 46] R X → ∃ R', e_join_2 m X (nI c) (nI k) = Option.some R' ∧ RBt N R' (n + frC R M c s) (ovK R M c s) ∧ Fn [47] [45, 46] R R' := by
  intro m
  induction m with
  | zero => intro k _ _ h; exact absurd h (Nat.not_lt_zero _)
  | succ m ih =>
    intro k X hk hm hb f
    have h0 := h.1
    have h2 := h.2.2.1
    have hb2 := hb.2.1
    rw [e_join_2, ld_n h0 (by decide), f.1.2.1 26 (by decide), h.2.1]
    by_cases c1 : k = s
    · rw [c1, if_pos (nI_le (Nat.le_refl _) (by omega))]
      rw [c1] at hb
      exact ⟨X, rfl, hb, f⟩
    · obtain ⟨t1, t2, t3⟩ := h.tk hN (show k < s by omega)
      obtain ⟨r, e, w⟩ := z_batchAt (t := tkB R c k) hb hN
      rw [if_neg (nI_ge (by omega) (by omega)), show (64 : Int32) = nI 64 from rfl, pk_mul, nI_add, ld_n (by omega) (by decide), f.1.2.1 27 (by decide), t2, bnd_o e]
      have hov : ovK R M c k (tkB R c k) = M (tkB R c k) := ovK_n k (fun i hi z => by
        have := h.inj hN (show i < s by omega) (show k < s by omega) z
        omega)
      have hmo : frC R M c (k + 1) ≤ frC R M c s := frC_mono s (by omega)
      have key : ∀ (n' i : Nat) (Y : RfT), Fn [47] [45, 46] X Y → rA Y 45 = rA X 45 → rA Y 46 = rA X 46 → rS Y 47 = nI n' → n' ≤ 40 → i < n' → n' = n + frC R M c (k + 1) → ((i < n + frC R M c k ∧ n' = n + frC R M c k ∧ rA X 45 i = nI (tkB R c k)) ∨ (i = n + frC R M c k ∧ n' = n + frC R M c k + 1 ∧ ovK R M c k (tkB R c k) = none)) → ∃ R', e_join_48 (e_join_2 m) Y (nI c) (nI k) (nI i) = Option.some R' ∧ RBt N R' (n + frC R M c s) (ovK R M c s) ∧ Fn [47] [45, 46] R R' := by
        intro n' i Y fy y45 y46 y47 hn' hi en hc
        have fY := f.tr fy
        have e28 : rA Y 28 = rA R 28 := fY.1.2.1 28 (by decide)
        have hcp := z_cp68_81 (R := setA Y 45 (upd (rA Y 45) i (nI (tkB R c k)))) (p := 128 * (64 * c + k)) (q := 128 * i) (by show Byt (rA Y 28); rw [e28]; exact h28) (by omega) (by omega)
        rw [e_join_48, show (64 : Int32) = nI 64 from rfl, show (128 : Int32) = nI 128 from rfl, pk_mul, nI_add, pk_mul, pk_mul, ld_n (by omega) (by decide), fY.1.2.1 27 (by decide), t2, st_n (by omega) (by decide), bnd_o hcp, nI_1]
        generalize hZ : setA (setA Y 45 (upd (rA Y 45) i (nI (tkB R c k)))) 46 _ = Z
        have fZ : Fn [47] [45, 46] Y Z := by
          rw [← hZ]
          exact (Fn.a (by decide)).tr (Fn.a (by decide))
        have z46 : rA Z 46 = va_cpy (rA R 28) (rA X 46) (128 * (64 * c + k)) (128 * i) 128 := by
          rw [← hZ, rA_e, ← e28, ← y46]
          rfl
        have hbZ : RBt N Z n' (upQ (ovK R M c k) (tkB R c k) (nr (fl (rA R 28) (64 * c + k)))) := by
          refine hb.put hN t1 hc hn' ?_ ?_ (fun j hj => ?_) ?_ ?_
          · rw [← hZ]
            exact y47
          · rw [← hZ, ← y45]
            rfl
          · rw [z46]
            exact fl_out hj
          · rw [z46, fl_in]
            rfl
          · rw [z46]
            exact h28.cpy hb.2.2.2.2.2
        rw [en] at hbZ
        exact ih (k + 1) Z (by omega) (by omega) hbZ (fY.tr fZ)
      rcases w with ⟨w1, w2⟩ | ⟨i, w1, w2, w3⟩
      · have w3 := w2
        rw [hov] at w3
        have hf : frC R M c (k + 1) = frC R M c k + 1 := by rw [frC_s, if_pos w3]
        rw [if_pos w1, ptR, hb.1, nI_1]
        exact key (n + frC R M c k + 1) (n + frC R M c k) _ (Fn.s (by decide)) rfl rfl (pk_us (f := X.1) (k := 47)) (by omega) (by omega) (by omega) (Or.inr ⟨rfl, rfl, w2⟩)
      · have w4 := hb.some hN t1 w1 w3
        rw [hov] at w4
        have hf : frC R M c (k + 1) = frC R M c k := by rw [frC_s, if_neg w4, Nat.add_zero]
        rw [if_neg (by rw [w2]; exact nI_m1 (by omega)), w2]
        exact key (n + frC R M c k) i X Fn.rf rfl rfl hb.1 (by omega) w1 (by omega) (Or.inl ⟨w1, rfl, w3⟩)
theorem z_join {n c s : Nat} {M q : QC} (hb : RBt N R n M) (h : QcR N R c s q) (hN : N ≤ 1024) (h28 : Byt (rA R 28)) (hn : n + frC R M c s ≤ 40) : ∃ R', e_join R (nI c) = Option.some R' ∧ RBt N R' (n + frC R M c s) (ovK R M c s) ∧ Fn [47] [45, 46] R R' := by
  have h2 := h.2.2.1
  exact z_join_l h hN h28 hn fuL 0 R (Nat.zero_le _) (by rw [fuL_4]; omega) hb Fn.rf
theorem QcR.fq {R' : RfT} {S T : List Nat} {c s : Nat} {q : QC} (h : QcR N R c s q) (f : Fq S T R R') (h26 : 26 ∉ T) (h27 : 27 ∉ T) (h28 : 28 ∉ T) : QcR N R' c s q := by
  unfold QcR tkB at *
  rw [f.2.1 26 h26, f.2.1 27 h27, f.2.1 28 h28]
  exact h
end PUW
