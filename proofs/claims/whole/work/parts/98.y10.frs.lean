/-! ===== a disk that was just formatted ===== -/
section PZS1
variable {N B gr : Nat} {V : Nat → Rw}
theorem bt_nr {y : Nat → Int32} {d : Nat} (hd : d < 1024) : btM (nr y) d = btM y d := by
  unfold btM ub
  rw [nr_at (by omega)]
theorem bt_z {d : Nat} : btM z0 d = 0 := by
  unfold btM ub z0
  rw [show ((0 : Int32).toBitVec.toNat % 256) = 0 from rfl, Nat.zero_div]
theorem bt_cBt : ∀ k, k ≤ 1024 → ∀ d, d < 1024 → btM (cBt N z0 k) d = if d < k ∧ (d < 61 ∨ N ≤ d) then 1 else 0
  | 0, _, d, hd => by
    rw [if_neg (by omega)]
    exact bt_z
  | k + 1, hk, d, hd => by
    have ih := bt_cBt k (by omega) d hd
    by_cases c : k < 61 ∨ N ≤ k
    · rw [cBt_y c, ← bt_nr hd, bsW_t, bt_bs (by omega) hd, ih]
      by_cases e : d = k
      · rw [if_pos e, if_pos (show d < k + 1 ∧ (d < 61 ∨ N ≤ d) from ⟨by omega, by rw [e]; exact c⟩)]
        rfl
      · rw [if_neg e]
        by_cases e2 : d < k ∧ (d < 61 ∨ N ≤ d)
        · rw [if_pos e2, if_pos (by omega)]
        · rw [if_neg e2, if_neg (by omega)]
    · rw [cBt_n c, ih]
      by_cases e2 : d < k ∧ (d < 61 ∨ N ≤ d)
      · rw [if_pos e2, if_pos (by omega)]
      · rw [if_neg e2, if_neg (by
          intro q
          by_cases e : d = k
          · rw [e] at q
            exact c q.2
          · exact e2 ⟨by omega, q.2⟩)]
def Frs (N : Nat) (V : Nat → Rw) : Prop := ∀ t, 43 ≤ t → t < 61 → V t = nr (fRow N t z0)
theorem fr43 : fRow N 43 z0 = cBt N z0 1024 := by
  unfold fRow
  rw [if_pos rfl, zB.z.f]
theorem fr44 : fRow N 44 z0 = upd z0 0 (vp_nar .byte (1 : Int32)) := by
  unfold fRow
  rw [if_neg (by decide), if_pos rfl, zB.z.f]
theorem fr45 : fRow N 45 z0 = upd (upd z0 0 (vp_nar .byte (2 : Int32))) 1 (vp_nar .byte (1 : Int32)) := by
  unfold fRow
  rw [if_neg (by decide), if_neg (by decide), if_pos rfl, zB.z.f]
theorem Frs.b43 (h : Frs N V) {d : Nat} (hd : d < 1024) : btM (V 43) d = if d < 61 ∨ N ≤ d then 1 else 0 := by
  rw [h 43 (by decide) (by decide), bt_nr hd, fr43, bt_cBt 1024 (Nat.le_refl _) d hd]
  by_cases c : d < 61 ∨ N ≤ d
  · rw [if_pos c, if_pos ⟨hd, c⟩]
  · rw [if_neg c, if_neg (fun q => c q.2)]
theorem Frs.b44 (h : Frs N V) {d : Nat} (hd : d < 1024) : btM (V 44) d = if d = 0 then 1 else 0 := by
  rw [h 44 (by decide) (by decide), bt_nr hd, fr44]
  unfold btM ub
  by_cases c : d / 8 = 0
  · rw [c, pk_us]
    have : d < 8 := by omega
    have k : ∀ e : Fin 8, ((vp_nar .byte (1 : Int32)).toBitVec.toNat % 256) / 2 ^ (e.val % 8) % 2 = if e.val = 0 then 1 else 0 := by decide
    exact k ⟨d, this⟩
  · rw [pk_un c, if_neg (by omega)]
    show ((0 : Int32).toBitVec.toNat % 256) / _ % 2 = 0
    rw [show ((0 : Int32).toBitVec.toNat % 256) = 0 from rfl, Nat.zero_div]
theorem Frs.u (h : Frs N V) {i a : Nat} (hi : ir i) (ha : a < 32) : ub (V (homeM i)) (startM i + a) = if i = 1 ∧ a = 0 then 2 else if i = 1 ∧ a = 1 then 1 else 0 := by
  obtain ⟨i1, i2⟩ := hi
  have hs : startM i + a < 128 := by unfold startM; omega
  rw [h (homeM i) (by unfold homeM; omega) (by unfold homeM; omega)]
  unfold ub
  rw [nr_at hs]
  by_cases c : (i - 1) / 4 = 0
  · have e : homeM i = 45 := by unfold homeM; rw [c]
    rw [e, fr45]
    by_cases c0 : startM i + a = 0
    · have : i = 1 ∧ a = 0 := by unfold startM at c0; omega
      rw [if_pos this, c0, pk_un (by decide), pk_us]
      rfl
    · have n0 : ¬ (i = 1 ∧ a = 0) := by
        rintro ⟨q1, q2⟩
        exact c0 (by unfold startM; rw [q1, q2])
      rw [if_neg n0]
      by_cases c1 : startM i + a = 1
      · have : i = 1 ∧ a = 1 := by unfold startM at c1; omega
        rw [if_pos this, c1, pk_us]
        rfl
      · have n1 : ¬ (i = 1 ∧ a = 1) := by
          rintro ⟨q1, q2⟩
          exact c1 (by unfold startM; rw [q1, q2])
        rw [if_neg n1, pk_un c1, pk_un c0]
        rfl
  · rw [fRow_o (by unfold homeM; omega), flt_at (Nat.zero_le _) hs, if_neg (by omega), if_neg (by omega)]
    rfl
theorem Frs.k (h : Frs N V) {i : Nat} (hi : ir i) : f1 V i 0 = if i = 1 then 2 else 0 := by
  have q := h.u hi (a := 0) (by decide)
  unfold f1
  rw [q]
  by_cases c : i = 1
  · rw [if_pos ⟨c, rfl⟩, if_pos c]
  · rw [if_neg (fun z => c z.1), if_neg (fun z => c z.1), if_neg c]
theorem Frs.z (h : Frs N V) {i a : Nat} (hi : ir i) (h2 : 2 ≤ a) (ha : a < 32) : ub (V (homeM i)) (startM i + a) = 0 := by
  rw [h.u hi ha, if_neg (by omega), if_neg (by omega)]
theorem Frs.sz (h : Frs N V) {i : Nat} (hi : ir i) : szM V i = 0 := by
  unfold szM f4 n4 n2
  rw [h.z hi (by decide) (by decide), Nat.add_assoc (startM i) 4 1, h.z hi (by decide) (by decide), Nat.add_assoc (startM i) 4 2, h.z hi (by decide) (by decide), Nat.add_assoc (startM i) (4 + 2) 1, h.z hi (by decide) (by decide)]
theorem Frs.nf (h : Frs N V) {i a : Nat} (hi : ir i) (h2 : 2 ≤ a) (ha : a < 31) : f2 V i a = 0 := by
  unfold f2 n2
  rw [h.z hi h2 (by omega), Nat.add_assoc, h.z hi (by omega) (by omega)]
theorem Frs.pA (h : Frs N V) {i x : Nat} (hi : ir i) : pvA V i x = 0 := by
  unfold pvA
  split
  · exact h.nf hi (by omega) (by omega)
  · split
    · exact h.nf hi (by decide) (by decide)
    · exact h.nf hi (by decide) (by decide)
theorem Frs.pz (h : Frs N V) {i x : Nat} (hi : ir i) : pv V i x = 0 := by
  have t0 : ∀ l, pvT V 0 l = 0 := fun l => if_pos rfl
  unfold pv
  rw [h.pA hi, h.pA hi, h.pA hi]
  rw [t0, t0, t0, t0]
  split
  · rfl
  · split
    · rfl
    · split <;> rfl
theorem Frs.nm (h : Frs N V) {i : Nat} : ∀ d, d ≤ 65 → nmC V i d = 0
  | 0, _ => rfl
  | d + 1, hd => by
    show nmC V i d + (if 1 ≤ d ∧ f1 V d 0 = 2 then nmD V i d (szM V d / 16) else 0) = 0
    rw [h.nm d (by omega)]
    by_cases c : 1 ≤ d ∧ f1 V d 0 = 2
    · rw [if_pos c, h.sz ⟨c.1, by omega⟩]
      rfl
    · rw [if_neg c]
theorem Frs.wf (hN1 : 61 ≤ N) (hN : N ≤ 1024) (h : Frs N V) : WF N V := by
  have r1 : ir 1 := ⟨by decide, by decide⟩
  refine ⟨⟨⟨fun b hb => ?_, fun b hb hb2 => ?_⟩, fun i x hi _ => Or.inl (h.pz hi), fun i x j y hi _ _ _ z => absurd (h.pz hi) z, fun b h1 h2 => ⟨fun z => ?_, fun ⟨i, x, hi, _, e⟩ => ?_⟩⟩, fun i hi => ⟨?_, ?_, fun q _ _ => h.pz hi⟩, fun i hi hk a ha => ?_, fun k hk => ?_, fun d hd _ => ?_, fun d s hd _ hs => ?_, ?_, fun i hi => ?_, fun i hi hk hn => ?_, h.nm 65 (Nat.le_refl _), fun d s hd _ _ hs => ?_⟩
  · rw [h.b43 (by omega), if_pos (Or.inl hb)]
  · rw [h.b43 hb2, if_pos (Or.inr hb)]
  · rw [h.b43 (by omega), if_neg (by omega)] at z
    cases z
  · rw [h.pz hi] at e
    omega
  · rw [h.k hi]
    split <;> decide
  · rw [h.sz hi]
    exact Nat.zero_le _
  · rw [h.k hi] at hk
    by_cases c : i = 1
    · rw [if_pos c] at hk
      cases hk
    · rw [h.u hi ha, if_neg (fun z => c z.1), if_neg (fun z => c z.1)]
  · rw [h.b44 hk]
    by_cases c : k < 64
    · rw [h.k (i := k + 1) ⟨by omega, by omega⟩]
      by_cases c2 : k = 0
      · rw [if_pos c2, if_pos (show k + 1 = 1 by omega), if_pos ⟨c, by decide⟩]
      · rw [if_neg c2, if_neg (show ¬ k + 1 = 1 by omega), if_neg (fun z => z.2 rfl)]
    · rw [if_neg (by omega), if_neg (fun z => c z.1)]
  · rw [h.sz hd]
    exact ⟨rfl, fun q hq => absurd hq (by simp)⟩
  · rw [h.sz hd] at hs
    exact absurd hs (by simp)
  · rw [h.k r1]
    rfl
  · rw [h.nm 65 (Nat.le_refl _)]
    have q := h.u hi (a := 1) (by decide)
    unfold f1
    rw [q]
    by_cases c : i = 1
    · rw [if_neg (fun z => absurd z.2 (by decide)), if_pos ⟨c, rfl⟩, if_pos c]
    · rw [if_neg (fun z => c z.1), if_neg (fun z => c z.1), if_neg c]
  · rw [h.k hi, if_neg hn] at hk
    cases hk
  · rw [h.sz hd] at hs
    exact absurd hs (by simp)
end PZS1
