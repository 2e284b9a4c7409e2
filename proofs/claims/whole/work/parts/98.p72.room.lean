/-! ===== pure: room, free inodes, free slots ===== -/
section PWW
variable {N B gr : Nat} {V : Nat → Rw} {m : M5} {tk : Nat → Bool} {i : Nat} {ow : Nat → Int}
def rmM (N : Nat) (m : M5) (V : Nat → Rw) : Nat := fbM (V 43) N - rsC m.2.2.2.2 2 N
theorem rs_fb {y : Rw} {rs : Nat → Nat} : ∀ n, (∀ b, b < n → rs b = 2 → btM y b = 0) → rsC rs 2 n ≤ fbM y n
  | 0, _ => Nat.le_refl _
  | n + 1, h => by
    have ih := rs_fb n (fun b hb => h b (by omega))
    show rsC rs 2 n + (if rs n = 2 then 1 else 0) ≤ fbM y n + (1 - btM y n)
    by_cases c : rs n = 2
    · rw [if_pos c, h n (by omega) c]
      omega
    · rw [if_neg c]
      omega
theorem fb_up {y : Rw} : ∀ n, fbM y n ≤ n
  | 0 => Nat.le_refl _
  | n + 1 => by
    have ih := fb_up (y := y) n
    show fbM y n + (1 - btM y n) ≤ n + 1
    omega
theorem CX.rs2 {A : MS} {D : CfT} (h : CX N A D m V tk) : rsC m.2.2.2.2 2 N ≤ fbM (V 43) N := rs_fb N (fun b hb h2 => by
  rcases bt01 (V 43) b with q | q
  · exact q
  · have := h.2.2.2.2.2.2 b hb q
    omega)
theorem j_room {A : MS} {D D2 : CfT} {R : RfT} (hN1 : 61 ≤ N) (hN : N ≤ 1024) (h : JX N B gr A D R m V tk) (hz : RZ N m) : d_X10_available N (vA A) A.2.2.2.2.1 D2 = some (nI (rmM N m V)) ∧ ∃ g, e_room R = some (nI (rmM N m V), setA R 43 g) := by
  have h43 : vA A 43 = V 43 := h.1.see (by decide) (by omega) (h.2.2.2.1 43 (by decide))
  have r43 : rSee R true 43 = V 43 := h.see (by decide) (by omega)
  have em : A.2.2.2.2.1 = m.2.2.2.2 := by rw [← h.1.1]; rfl
  have hle := h.1.rs2
  have e : nI (fbM (V 43) N) - nI (rsC m.2.2.2.2 2 N) = nI (rmM N m V) := by
    rw [pk_sub hle]
    rfl
  constructor
  · rw [em, d_available hN1 hN (by rw [h43]; exact h.2.2.2), h43, e]
  · obtain ⟨g, q⟩ := z_room (R := R) (rs := m.2.2.2.2) h.2.1.1.2.2.2.2.2.2.1 hN1 hN h.2.1.1.lk h.2.1.1.by (by rw [r43]; exact h.2.2.2) h.2.1.1.2.2.2.1 hz
    rw [r43, e] at q
    exact ⟨g, q⟩
theorem fi_cg {W : Nat → Rw} {e : Int32} (h : ∀ j, ir j → f1 W j 0 = f1 V j 0) : ∀ (k j : Nat), 1 ≤ j → j + k ≤ 65 → fiM W e k j = fiM V e k j
  | 0, _, _, _ => rfl
  | k + 1, j, h1, h2 => by
    show (if f1 W j 0 = 0 then nI j else fiM W e k (j + 1)) = (if f1 V j 0 = 0 then nI j else fiM V e k (j + 1))
    rw [h j ⟨h1, by omega⟩, fi_cg h k (j + 1) (by omega) (by omega)]
theorem fi_o {e : Int32} : ∀ (k j : Nat), 1 ≤ j → j + k = 65 → ((∀ e, fiM V e k j = e) ∧ ∀ t, j ≤ t → t ≤ 64 → f1 V t 0 ≠ 0) ∨ ∃ t, ir t ∧ f1 V t 0 = 0 ∧ ∀ e, fiM V e k j = nI t
  | 0, j, h1, h2 => Or.inl ⟨fun _ => rfl, fun t t1 t2 => by omega⟩
  | k + 1, j, h1, h2 => by
    by_cases c : f1 V j 0 = 0
    · exact Or.inr ⟨j, ⟨h1, by omega⟩, c, fun e => if_pos c⟩
    · have es : ∀ e, fiM V e (k + 1) j = fiM V e k (j + 1) := fun e => if_neg c
      rcases fi_o (e := e) k (j + 1) (by omega) (by omega) with ⟨q1, q2⟩ | ⟨t, q1, q2, q3⟩
      · exact Or.inl ⟨fun e => by rw [es]; exact q1 e, fun t t1 t2 => by
          by_cases ct : t = j
          · rw [ct]; exact c
          · exact q2 t (by omega) t2⟩
      · exact Or.inr ⟨t, q1, q2, fun e => by rw [es]; exact q3 e⟩
theorem j_freeI {A : MS} {D D2 : CfT} {R : RfT} (hN1 : 61 ≤ N) (hN : N ≤ 1024) (h : JX N B gr A D R m V tk) : (d_X7_lowestFree N (vA A) D2 = some (-1) ∧ e_freeInode R = some 0 ∧ ∀ t, ir t → f1 V t 0 ≠ 0) ∨ ∃ t, ir t ∧ f1 V t 0 = 0 ∧ d_X7_lowestFree N (vA A) D2 = some (nI t) ∧ e_freeInode R = some (nI t) := by
  have e1 : d_X7_lowestFree N (vA A) D2 = some (fiM V (-1) 64 1) := by
    rw [d_lowestFree hN1 hN, fi_cg (fun j hj => (f1_ag (a := 0) hN1 h.1.agu h.2.2.2 hj.2).1) 64 1 (by decide) (by decide)]
  have e2 : e_freeInode R = some (fiM V 0 64 1) := by
    rw [z_freeInode h.2.1.1.lk, fi_cg (fun j hj => (f1_ag (a := 0) hN1 h.2.agu h.2.2.2 hj.2).1) 64 1 (by decide) (by decide)]
  rcases fi_o (V := V) (e := 0) 64 1 (by decide) (by decide) with ⟨q1, q2⟩ | ⟨t, q1, q2, q3⟩
  · exact Or.inl ⟨by rw [e1, q1], by rw [e2, q1], fun t ht => q2 t ht.1 ht.2⟩
  · exact Or.inr ⟨t, q1, q2, by rw [e1, q3], by rw [e2, q3]⟩
theorem WFs.pz (h : WFs N V ow) (hi : ir i) : PzE V i := (h.2.1 i hi).2
theorem WFs.rd {W : Nat → Rw} {d : Nat} (hN1 : 61 ≤ N) (h : WFs N V ow) (ag : AgU N V W) (hd : ir d) (hk : f1 V d 0 = 2) : szM W d = szM V d ∧ szM V d < 2 ^ 30 ∧ szM V d / 16 < fuL ∧ ∀ s, s < szM V d / 16 → pOk N W d (s / 8) := by
  have h1 := (h.pz hd).1
  refine ⟨sz_ag hN1 ag h.1.1 hd, by omega, by rw [fuL_4]; omega, fun s hs => pok_ag h.1 hN1 ag hd (h.dblk hd hk hs).1⟩
theorem WFs.db {d : Nat} (h : WFs N V ow) (hd : ir d) (hk : f1 V d 0 = 2) : ∀ s, s < szM V d / 16 → s / 8 < 4168 ∧ pv V d (px (s / 8)) ≠ 0 := fun s hs => by
  have := h.dblk hd hk hs
  exact ⟨this.1, this.2.1⟩
theorem j_freeSlotS {A : MS} {D D2 : CfT} {R : RfT} (hN1 : 61 ≤ N) (hN : N ≤ 1024) (h : JX N B gr A D R m V tk) (hw : WFs N V ow) {d : Nat} (hd : ir d) (hk : f1 V d 0 = 2) : d_X4_freeSlot N (vA A) D2 (nI d) = some (frM V d (szM V d / 16) 0) ∧ e_freeSlot R (nI d) = some (frM V d (szM V d / 16) 0) := by
  obtain ⟨a1, a2, a3, a4⟩ := hw.rd hN1 h.1.agu hd hk
  obtain ⟨b1, b2, b3, b4⟩ := hw.rd hN1 h.2.agu hd hk
  refine ⟨?_, ?_⟩
  · rw [d_freeSlot hd.1 hd.2 hN1 hN (by rw [a1]; exact a2) (by rw [a1]; exact a4) (by rw [a1]; exact a3), a1, frM_cg hw.1 hN1 h.1.agu hd (hw.db hd hk) _ 0 (by omega)]
  · rw [z_freeSlot h.2.1.1.lk hd.1 hd.2 (by rw [b1]; exact b2) (by rw [b1]; exact fun s hs => pok_1024 hN (b4 s hs)) (by rw [b1]; exact b3), b1, frM_cg hw.1 hN1 h.2.agu hd (hw.db hd hk) _ 0 (by omega)]
theorem fr_o {d n : Nat} (hb : ∀ s, s < n → s / 8 < 4168 ∧ pv V d (px (s / 8)) ≠ 0) : ∀ (k s : Nat), s + k = n → (frM V d k s = -1 ∧ ∀ t, s ≤ t → t < n → sln V d t ≠ 0) ∨ ∃ t, s ≤ t ∧ t < n ∧ sln V d t = 0 ∧ frM V d k s = nI t
  | 0, s, h => Or.inl ⟨rfl, fun t t1 t2 => by omega⟩
  | k + 1, s, h => by
    have es : slM V d s = sln V d s := by
      unfold slM sln
      rw [bl_pv (hb s (by omega)).1]
    have e : frM V d (k + 1) s = if sln V d s = 0 then nI s else frM V d k (s + 1) := by
      rw [← es]
      rfl
    by_cases c : sln V d s = 0
    · exact Or.inr ⟨s, Nat.le_refl _, by omega, c, by rw [e, if_pos c]⟩
    · rcases fr_o hb k (s + 1) (by omega) with ⟨q1, q2⟩ | ⟨t, q1, q2, q3, q4⟩
      · exact Or.inl ⟨by rw [e, if_neg c]; exact q1, fun t t1 t2 => by
          by_cases ct : t = s
          · rw [ct]; exact c
          · exact q2 t (by omega) t2⟩
      · exact Or.inr ⟨t, by omega, q2, q3, by rw [e, if_neg c]; exact q4⟩
/-- a directory has no more blocks than the disk -/
theorem WFs.dlim {d : Nat} (h : WFs N V ow) (hd : ir d) (hk : f1 V d 0 = 2) : szM V d / 128 ≤ N := by
  have h1 := (h.pz hd).1
  obtain ⟨z1, z2⟩ := h.2.2.2.2.1 d hd hk
  exact pigeon N (szM V d / 128) (fun q => pv V d (px q)) (fun q hq => ((h.1.2.1 d (px q) hd (px_lt (by omega))).resolve_left (z2 q hq)).2) (fun p q hp hq e => px_inj (h.1.2.2.1 d (px p) d (px q) hd (px_lt (by omega)) hd (px_lt (by omega)) (z2 p hp) e).2)
/-- what a name more wants -/
def wtM (V : Nat → Rw) (d : Nat) : Nat := if frM V d (szM V d / 16) 0 = -1 then msM V d (szM V d / 128) else 0
theorem wtM_le {d : Nat} (hd : szM V d / 128 < 4168) : wtM V d ≤ 3 := by
  unfold wtM
  split
  · exact (ms_f hd).2.2.2
  · omega
theorem j_wants {A : MS} {D D2 : CfT} {R : RfT} (hN1 : 61 ≤ N) (hN : N ≤ 1024) (h : JX N B gr A D R m V tk) (hz : RZ N m) (hw : WFs N V ow) {d : Nat} (hd : ir d) (hk : f1 V d 0 = 2) : d_X4_wants N (vA A) D2 (nI d) = some (nI (wtM V d)) ∧ ∃ g, e_hasNoRoom R (nI d) = some (bI (decide (¬ wtM V d ≤ rmM N m V)), setA R 43 g) := by
  obtain ⟨e1, e2⟩ := j_freeSlotS (D2 := D2) hN1 hN h hw hd hk
  obtain ⟨s1, s2⟩ := j_size (D2 := D2) hN1 hN h hd
  obtain ⟨r1, g, r2⟩ := j_room (D2 := D2) hN1 hN h hz
  have hl := hw.dlim hd hk
  have hz1 := (hw.pz hd).1
  have hlt := wtM_le (V := V) (d := d) (by omega)
  have hrl : rmM N m V ≤ N := Nat.le_trans (Nat.sub_le _ _) (fb_up N)
  rw [d_X4_wants, e_hasNoRoom, bnd_o e1, bnd_o s2, bnd_o e2]
  unfold wtM at hlt ⊢
  by_cases c : frM V d (szM V d / 16) 0 = -1
  · rw [if_pos c] at hlt
    rw [if_pos c, if_pos c, if_pos c, bnd_o s1]
    have ed : nI (szM V d) / 128 = nI (szM V d / 128) := by
      rw [show (128 : Int32) = nI 128 from rfl, pk_div (by omega) (by decide) (by decide)]
    rw [ed, bnd_o (c_missing hN1 hN h.1 (hw.1.pto hd) hd (by omega)), bnd_o (z_need hN1 hN h.2 (hw.1.pto hd) hd (by omega) (by omega)), bnd2_o r2, show szM V d / 128 + 1 - szM V d / 128 = 1 by omega]
    refine ⟨rfl, g, ?_⟩
    have ew : wnF V d true (szM V d / 128) 1 = msM V d (szM V d / 128) := wq_t (by omega)
    rw [ew]
    by_cases c2 : msM V d (szM V d / 128) ≤ rmM N m V
    · rw [if_pos (nI_le c2 (by omega)), decide_eq_false (fun z => z c2)]
      rfl
    · rw [if_neg (nI_ge (by omega) (by omega)), decide_eq_true c2]
      rfl
  · rw [if_neg c, if_neg c, if_neg c]
    refine ⟨rfl, rA R 43, ?_⟩
    rw [decide_eq_false (fun z => z (Nat.zero_le _)), setA_id]
    rfl
end PWW
