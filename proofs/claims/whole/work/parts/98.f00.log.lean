/-! ===== the class's log stands for the model's ===== -/
section CLA
def LgR (N : Nat) (C : CfT) (L : List En) (tu : Int32) : Prop := cS C 1305 = nI L.length ∧ L.length ≤ 40 ∧ cS C 1306 = tu ∧ (∀ k, k < L.length → (lAt L k).1 < N ∧ cA C 14 k = nI (lAt L k).1) ∧ (∀ b, b < N → EnOk (cA C 16) L b) ∧ Byt (cA C 15)
theorem LgR.sm {N : Nat} {C C' : CfT} {L : List En} {tu : Int32} {M : List Nat} (h : LgR N C L tu) (hs : Sm M C C') (hM : 1 ∉ M) : LgR N C' L tu := by
  obtain ⟨h1, h2, h3, h4, h5, h6⟩ := h
  have e14 : cA C' 14 = cA C 14 := hs.2.1 14 hM
  have e15 : cA C' 15 = cA C 15 := hs.2.1 15 hM
  have e16 : cA C' 16 = cA C 16 := hs.2.1 16 hM
  refine ⟨(hs.1 1305 hM).trans h1, h2, (hs.1 1306 hM).trans h3, ?_, ?_, ?_⟩
  · rw [e14]
    exact h4
  · rw [e16]
    exact h5
  · rw [e15]
    exact h6
theorem LgR.lz {N : Nat} {C : CfT} {L : List En} {tu : Int32} (h : LgR N C L tu) : lgZ N C := by
  obtain ⟨h1, h2, h3, h4, h5, h6⟩ := h
  have e : (cS C 1305).toNatClampNeg = L.length := by rw [h1]; exact nI_clamp (by omega)
  refine ⟨by rw [h1]; exact nI_nn (by omega), ?_⟩
  unfold lgOf
  rw [e]
  refine ⟨h2, fun j hj => ?_, h6, fun t ht => ?_⟩
  · obtain ⟨q1, q2⟩ := h4 j hj
    refine ⟨(lAt L j).1, q1, q2, ?_⟩
    rcases h5 _ q1 with ⟨_, r⟩ | ⟨k, r1, r2, _⟩
    · exact absurd rfl (r j hj)
    · exact ⟨k, r1, r2⟩
  · rcases h5 t ht with ⟨r, _⟩ | ⟨k, r1, r2, r3, _⟩
    · exact Or.inl r
    · exact Or.inr ⟨k, r1, r2, by rw [(h4 k r1).2, r3]⟩
theorem LgR.note {N t : Nat} {C : CfT} {L : List En} {tu : Int32} {x : Rw} (h : LgR N C L tu) (ht : t < N) (hl : L.length < 40) : LgR N (sS (sA (sA C 14 (upd (cA C 14) L.length (nI t))) 16 (upd (cA C 16) t (nI L.length))) 1305 ((nI L.length) + ((1 : Int32)))) (L ++ [(t, x)]) tu := by
  obtain ⟨h1, h2, h3, h4, h5, h6⟩ := h
  have hn : (L ++ [(t, x)]).length = L.length + 1 := List.length_append
  have e0 : lAt (L ++ [(t, x)]) L.length = (t, x) := lAt_end (L := L) (M := [(t, x)]) (k := 0)
  refine ⟨?_, by rw [hn]; omega, h3, fun k hk => ?_, fun b hb => (h5 b hb).note, h6⟩
  · rw [hn, ← nI_1]
    rfl
  · rw [hn] at hk
    show _ ∧ upd (cA C 14) L.length (nI t) k = _
    by_cases c : k = L.length
    · rw [c, e0]
      exact ⟨ht, pk_us⟩
    · rw [lAt_app (by omega), pk_un c]
      exact h4 k (by omega)
theorem Sm.note {C : CfT} {a b : Nat → Int32} {v : Int32} : Sm [1] C (sS (sA (sA C 14 a) 16 b) 1305 v) := ((Sm.a (by decide)).tr (Sm.a (by decide))).tr (Sm.s (by decide))
/-! rows that agree where they count -/
def Eb (n : Nat) (g h : Nat → Int32) : Prop := ∀ i, i < n → g i = h i
theorem Eb.up1 {n t : Nat} {v : Int32} {g h : Nat → Int32} (e : Eb n g h) : Eb n (upd g t v) (upd h t v) := fun i hi => by
  by_cases c : i = t
  · rw [c, pk_us, pk_us]
  · rw [pk_un c, pk_un c]
    exact e i hi
theorem Eb.two {n t : Nat} {v : Int32} {g h : Nat → Int32} (e : Eb n g h) : Eb n (s_two g t v) (s_two h t v) := (e.up1).up1
theorem Eb.four {n t : Nat} {v : Int32} {g h : Nat → Int32} (e : Eb n g h) : Eb n (s_four g t v) (s_four h t v) := (e.two).two
theorem Eb.wk {n m : Nat} {g h : Nat → Int32} (e : Eb n g h) (hm : m ≤ n) : Eb m g h := fun i hi => e i (by omega)
theorem Eb.row {g h : Nat → Int32} (e : Eb 128 g h) : nr g = nr h := nr_eq e
theorem Eb.of {g h : Nat → Int32} (e : nr g = nr h) : Eb 128 g h := fun i hi => by
  have := congrFun e i
  rw [nr_at hi, nr_at hi] at this
  exact this
theorem Eb.of' {g : Nat → Int32} {h : Rw} (e : nr g = h) : Eb 128 g h := fun i hi => by
  rw [← e, nr_at hi]
theorem Eb.mix {g h : Nat → Int32} (x : Int32) : ∀ n, Eb n g h → mixV x g n = mixV x h n
  | 0, _ => rfl
  | n + 1, e => by
    show mixV x g n * 31 + (g n &&& 255) = mixV x h n * 31 + (h n &&& 255)
    rw [Eb.mix x n (e.wk (by omega)), e n (by omega)]
theorem Eb.nm {bl bl' g h : Nat → Int32} (e : Eb 128 g h) : ∀ k, Eb k bl bl' → Eb 128 (nmR bl g k) (nmR bl' h k)
  | 0, _ => e
  | k + 1, q => by
    show Eb 128 (s_two (nmR bl g k) (2 * k) (bl k)) (s_two (nmR bl' h k) (2 * k) (bl' k))
    rw [q k (by omega)]
    exact (Eb.nm e k (q.wk (by omega))).two
theorem Eb_flt {g : Nat → Int32} : Eb 128 (flt g 0 128 0) (fun _ => 0) := fun i hi => by
  unfold flt
  rw [if_pos ⟨Nat.zero_le i, hi⟩]
theorem LgR.nums {N : Nat} {C : CfT} {L : List En} {tu : Int32} (h : LgR N C L tu) : nr (nmR (cA C 14) (flt (cA C 15) 0 128 (vp_nar .byte ((0 : Int32)))) L.length) = mNm L := by
  obtain ⟨h1, h2, h3, h4, h5, h6⟩ := h
  exact (Eb.nm Eb_flt _ (fun k hk => (h4 k hk).2)).row
theorem sum_eq {d : DkT} {v : Nat → Rw} {x : Int32} : ∀ k, (∀ j, j < k → nr (dRead d (3 + j)) = v j) → sumV d x k = smR v x k
  | 0, _ => rfl
  | k + 1, e => by
    show mixV (sumV d x k) (dRead d (3 + k)) 128 = mixV (smR v x k) (v k) 128
    rw [sum_eq k (fun j hj => e j (by omega))]
    exact Eb.mix _ 128 (Eb.of' (e k (by omega)))
theorem hdRow_eq {d : DkT} {L : List En} {tu : Int32} {sc : Nat → Int32} (hl : L.length ≤ 40) (h2 : L.length ≠ 0 → nr (dRead d 2) = mNm L) (hv : ∀ k, k < L.length → nr (dRead d (3 + k)) = (lAt L k).2) : nr (hdRow d L.length tu sc) = mHd L tu := by
  have e0 : Eb 128 (s_four (s_two (flt sc 0 128 0) 0 (nI L.length)) 2 tu) (mH0 L.length tu) := (Eb_flt.two).four
  have es : lgSum d (s_four (s_two (flt sc 0 128 0) 0 (nI L.length)) 2 tu) L.length = mSum L tu := by
    unfold lgSum mSum
    rw [Eb.mix 7 6 (e0.wk (by decide))]
    by_cases c : L.length = 0
    · rw [c]
      rfl
    · rw [Eb.mix _ (2 * L.length) ((Eb.of' (h2 c)).wk (by omega))]
      exact sum_eq _ hv
  show nr (s_four (s_four (s_two (flt sc 0 128 0) 0 (nI L.length)) 2 tu) 6 (lgSum d (s_four (s_two (flt sc 0 128 0) 0 (nI L.length)) 2 tu) L.length)) = _
  rw [es]
  exact (e0.four).row
end CLA
